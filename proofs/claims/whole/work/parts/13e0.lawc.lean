/-! THE LAW'S WORDS, by chunks -/
def lwCh : List (List Cond) := [wsL_law_r1, wsL_law_r2, wsL_law_r3, wsL_law_r4, wsL_law_r5, wsL_law_r6, wsL_law_r7, wsL_law_r8, wsL_law_r9, wsL_law_r10, wsL_law_r11, wsL_law_r12, wsL_law_r13, wsL_law_r14, wsL_law_r15, wsL_law_r16, wsL_law_r17, wsL_law_r18, wsL_law_r19, wsL_law_r20, wsL_law_r21, wsL_law_r22, wsL_law_r23, wsL_law_r24, wsL_law_r25, wsL_law_r26, wsL_law_r27, wsL_law_r28, wsL_law_r29, wsL_law_r30, wsL_law_r31, wsL_law_r32, wsL_law_r33, wsL_law_r34, wsL_law_r35, wsL_law_r36, wsL_law_r37, wsL_law_r38, wsL_law_r39, wsL_law_r40, wsX80, wsX90, wsX00, wsX10, wsX50, wsX20, wsX40, wsX30, wsX60]
theorem lwCh_in : wsL_law = lwCh.flatten := by
  simp only [wsL_law, lwCh, List.flatten_cons, List.flatten_nil, List.append_assoc, List.append_nil]
theorem goodIn_c (ws : List Cond) (ps : List (Nat × Nat)) (hp : ws = ps.filterMap (fun q => (lwCh[q.1]?).bind (fun c => c[q.2]?))) (h : ws.all goodWord = true) : GoodIn wsL_law ws := by
  refine goodIn_sub (fun w hw => ?_) h
  rw [hp] at hw
  obtain ⟨q, -, hq⟩ := List.mem_filterMap.mp hw
  obtain ⟨c, hc, hw2⟩ := Option.bind_eq_some_iff.mp hq
  rw [lwCh_in]
  exact List.mem_flatten.mpr ⟨c, List.mem_of_getElem? hc, List.mem_of_getElem? hw2⟩
