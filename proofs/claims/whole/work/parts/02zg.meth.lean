/-! ===== Z: a method's contract out of its walk; throws ===== -/
section ZM
variable {E : zEv} {J : zJ} {D K pc k : Nat} {Q Q1 : zO → zM → Prop} {ls st : List Value} {M : zM}
theorem zArgs_in : ∀ (args : List Value) (i j : Nat) (v : Value), (zArgs args)[j]? = some v → v ≠ zU → (i + j, zV E v) ∈ lv_args i (args.map (zV E)) := by
  intro args
  induction args with
  | nil => intro i j v h; simp [zArgs] at h
  | cons a as ih =>
    intro i j v h hv
    simp only [List.map_cons, lv_args]
    rw [zV_cat]
    by_cases hc : a.category = 2
    · simp only [zArgs, if_pos hc] at h ⊢
      match j with
      | 0 => simp at h; subst h; simp
      | 1 => simp at h; exact absurd h.symm hv
      | j + 2 =>
        simp at h
        refine List.mem_cons_of_mem _ ?_
        have := ih (i + 2) j v h hv
        rwa [show i + (j + 2) = i + 2 + j by omega]
    · simp only [zArgs, if_neg hc] at h ⊢
      match j with
      | 0 => simp at h; subst h; simp
      | j + 1 =>
        simp at h
        refine List.mem_cons_of_mem _ ?_
        have := ih (i + 1) j v h hv
        rwa [show i + (j + 1) = i + 1 + j by omega]
theorem zArgs_sl (args : List Value) : (lg_sl (args.map (zV E))).length = (zArgs args).length := by
  induction args with
  | nil => rfl
  | cons a as ih =>
    have e1 : lg_sl (List.map (zV E) (a :: as)) = (if (zV E a).category = 2 then [.val (zV E a), .second] else [.val (zV E a)]) ++ lg_sl (as.map (zV E)) := by simp [lg_sl]
    rw [e1, List.length_append, ih, zV_cat]
    by_cases hc : a.category = 2
    · simp [hc, zArgs]; omega
    · simp [hc, zArgs]; omega
theorem z_meth {args : List Value} (hy : plainName J.1.cls = true) (hlen : (zArgs args).length ≤ J.2.2.1) (h : Z E J D K Q 0 0 (zBeg J.2.2.1 args) [] M) : zC E J D K args M Q := by
  refine vx_ofW (cc := J.2.1) (maxL := J.2.2.1) (ret := J.2.2.2) hy rfl ?_
  intro p e s m a below meth c s₁ B hml ht hv
  obtain ⟨rfl, hP, hK, hb, hO, hD, hT⟩ := hv
  have hts := atoms_spec (ws := .code J.1 J.2.1 J.2.2.1 J.2.2.2 :: zT) B.pre
  have hl := lv_entry (args.map (zV E)) (n := J.2.2.1) (by rw [zArgs_sl]; exact hlen)
  rw [lg_entry_eq]
  refine h p e s m _ below meth c s.heap [] _ ⟨B.exec, B.bytes, B.returns, hml, findClass_of_methodNamed B.named, B.notSynchronized, ht, ⟨fun w hw => hts w (List.mem_cons_of_mem _ hw), hK, hb, hO⟩, hD, hT⟩ ⟨hP, va_S.rf⟩ ⟨hl.1, ?_, hl.2.1, ?_⟩
  · simp [zBeg]; omega
  · intro i v hi hv
    refine hl.2.2 (i, zV E v) ?_
    have h1 : (zArgs args)[i]? = some v := by
      simp only [zBeg, List.getElem?_append] at hi
      split at hi
      · exact hi
      · rw [List.getElem?_replicate] at hi
        split at hi
        · exact absurd (Option.some.inj hi).symm hv
        · cases hi
    have := zArgs_in (E := E) args 0 i v h1 hv
    rwa [Nat.zero_add] at this
end ZM
