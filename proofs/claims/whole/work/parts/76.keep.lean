/-! what every state keeps -/
def GX (x : Sg) : Prop := WG x ∧ JL x ∧ JT x
section GG
variable {x : Sg} {N : Nt} {R : List (List Int)} {D : List Int} {H : List Sg}
theorem GX_nil (hW : WFN N) (hR : ∀ l ∈ R, RT N l) (hD : pOK N D) : GX (N, R, D, []) := by
  refine ⟨⟨hW, hR, hD, fun c hc => by cases hc⟩, fun j hj => ?_, fun j c hj => ?_⟩
  · show 0 ≤ (jst N (List.take j [])).2.2
    rw [List.take_nil]
    exact hW.1.2.2.2.2.2.2.2.1
  · have hj : ([] : List Int)[j]? = some c := hj
    rw [List.getElem?_nil] at hj
    cases hj
theorem GX_rt (h : GX x) : ∀ l ∈ sR x, RT (sN x) l := h.1.2.1
theorem GX_add {t hd c e : Int} (h : GX x) : GX (qAdd x t hd c e).2.2 := by
  unfold qAdd
  split
  · exact h
  · rename_i c1
    split
    · exact h
    · rename_i c2
      split
      · exact h
      · rename_i c3
        split
        · exact h
        · rename_i c4
          split
          · rename_i c5
            have c1 := Classical.not_not.mp c1
            have c2 := Classical.not_not.mp c2
            have c4 := Classical.not_not.mp c4
            exact GX_nil (addN_wf h.1.1 c5 c1 c2 c3 c4.1 c4.2) (fun l hl => RT_id (GX_rt h l hl) rfl rfl (fun a _ q => addN_id q)) (pOK_id h.1.2.2.1 rfl rfl (fun a _ q => addN_id q))
          · exact h
theorem rho_shf {A a k : Int} {f : Int → Int} (h0 : 0 ≤ k) (h1 : k < A) (ha : 0 ≤ a ∧ a < A) (hne : k ≠ a) : shf A a f (rho a k) = f k := by
  unfold shf rho
  by_cases c : a < k
  · rw [if_pos c, if_pos (by omega), if_neg (by omega), Int.sub_add_cancel]
  · rw [if_neg c, if_pos (by omega), if_pos (by omega)]
theorem GX_del {a : Int} (h : GX x) : GX (qDel x a).2.2 := by
  unfold qDel
  split
  · exact h
  · rename_i c1
    have c1 := Classical.not_not.mp c1
    split
    · exact h
    · rename_i c2
      have hn : ∀ l : List Int, pOK (sN x) l → (¬ a ∈ l) → pOK (delN (sN x) a) (l.map (rho a)) ∧ endOf (delN (sN x) a) (l.map (rho a)) = endOf (sN x) l := by
        intro l hl hm
        have := pOK_map (N := sN x) (N' := delN (sN x) a) (rho a) rfl rfl _ l rfl hl (fun k hk => by
          have hk2 := pOK_AOK hl k hk
          have hne : k ≠ a := fun e => hm (e ▸ hk)
          refine ⟨rho_shf hk2.1 hk2.2 c1 hne, rho_shf hk2.1 hk2.2 c1 hne, ?_, ?_⟩
          · unfold rho; split <;> omega
          · show rho a k < nA (sN x) - 1
            unfold rho; split <;> omega)
        exact ⟨this.1, this.2.1⟩
      have hu : ∀ l, (l ∈ sR x → ¬ a ∈ l) := fun l hl hm => c2 (usesA_iff.mpr (Or.inl ⟨l, hl, hm⟩))
      have hd : ¬ a ∈ sD x := fun hm => c2 (usesA_iff.mpr (Or.inr hm))
      refine GX_nil (delN_wf h.1.1 c1) (fun l hl => ?_) (hn _ h.1.2.2.1 hd).1
      unfold rhoR at hl
      obtain ⟨l0, hl0, rfl⟩ := List.mem_map.mp hl
      have h0 := GX_rt h l0 hl0
      obtain ⟨q1, q2⟩ := hn l0 h0.1 (hu l0 hl0)
      exact ⟨q1, q2.trans h0.2⟩
theorem GX_set {a c e : Int} (h : GX x) : GX (qSet x a c e).2.2 := by
  unfold qSet
  split
  · exact h
  · split
    · exact h
    · rename_i c2
      have c2 := Classical.not_not.mp c2
      exact GX_nil (setN_wf h.1.1 c2.1 c2.2) (fun l hl => RT_id (GX_rt h l hl) rfl rfl (fun a _ q => ⟨rfl, rfl, q⟩)) (pOK_id h.1.2.2.1 rfl rfl (fun a _ q => ⟨rfl, rfl, q⟩))
theorem GX_bud {v : Int} (h : GX x) : GX (qBud x v).2.2 := by
  unfold qBud
  split
  · exact h
  · rename_i c2
    have c2 := Classical.not_not.mp c2
    exact GX_nil (budN_wf h.1.1 c2) (fun l hl => RT_id (GX_rt h l hl) rfl rfl (fun a _ q => ⟨rfl, rfl, q⟩)) (pOK_id h.1.2.2.1 rfl rfl (fun a _ q => ⟨rfl, rfl, q⟩))
theorem GX_draft {a : Int} (h : GX x) : GX (qDraft x a).2.2 := by
  unfold qDraft
  split
  · exact h
  · rename_i c1
    have c1 := Classical.not_not.mp c1
    split
    · rename_i c2
      exact ⟨⟨h.1.1, h.1.2.1, pOK_snoc h.1.2.2.1 c1.1 c1.2 c2, h.1.2.2.2⟩, h.2.1, h.2.2⟩
    · exact h
theorem GX_drop (h : GX x) : GX (qDrop x).2.2 := by
  unfold qDrop
  split
  · exact h
  · rename_i c1
    refine ⟨⟨h.1.1, h.1.2.1, ?_, h.1.2.2.2⟩, h.2.1, h.2.2⟩
    have e := List.dropLast_concat_getLast c1
    have hp := h.1.2.2.1
    rw [← e] at hp
    exact (pOK_init hp).1
theorem GX_tell (h : GX x) : GX (qTell x).2.2 := by
  unfold qTell
  split
  · rename_i c1
    refine ⟨⟨h.1.1, fun l hl => ?_, pOK_nil, h.1.2.2.2⟩, h.2.1, h.2.2⟩
    rcases List.mem_append.mp hl with hl | hl
    · exact h.1.2.1 l hl
    · have : l = sD x := by simpa using hl
      subst this
      refine ⟨h.1.2.2.1, ?_⟩
      unfold reasonF at c1
      by_cases c2 : endOf (sN x) (sD x) = nT (sN x)
      · exact c2
      · rw [if_neg c2] at c1; omega
  · exact h
theorem GX_forget {v : Int} (h : GX x) : GX (qForget x v).2.2 := by
  unfold qForget
  split
  · exact h
  · exact ⟨⟨h.1.1, fun l hl => h.1.2.1 l (List.mem_of_mem_eraseIdx hl), h.1.2.2.1, h.1.2.2.2⟩, h.2.1, h.2.2⟩
theorem GX_restart (h : GX x) : GX (sN x, sR x, sD x, []) := GX_nil h.1.1 (GX_rt h) h.1.2.2.1
theorem GX_load {y : Ps} (h : WGp y) : GX (y.1, y.2, [], []) := GX_nil h.1 h.2.2 pOK_nil
theorem GX_step {a del : Int} (h : GX x) (hd : del = 0 ∨ del = 1) : GX (qStep x a del).2.2 := by
  unfold qStep
  split
  · exact h
  · rename_i c1
    have c1 := Classical.not_not.mp c1
    have hA := h.1.1.1
    split
    · rename_i c2
      obtain ⟨d1, d2, d3, d4⟩ := c2
      have hm : (a + 100 * del) % 100 = a := by omega
      refine ⟨⟨h.1.1, h.1.2.1, h.1.2.2.1, fun c hc => ?_⟩, fun j hj => ?_, fun j c hj => ?_⟩
      · rcases List.mem_append.mp hc with hc | hc
        · exact h.1.2.2.2 c hc
        · have : c = a + 100 * del := by simpa using hc
          subst this
          refine ⟨by omega, by omega, ?_⟩
          show (a + 100 * del) % 100 < nA (sN x)
          omega
      · show 0 ≤ (jst (sN x) ((sJ x ++ [a + 100 * del]).take j)).2.2
        by_cases cj : j ≤ (sJ x).length
        · rw [List.take_append_of_le_length cj]
          exact h.2.1 j cj
        · rw [List.take_of_length_le (by simp; omega), jst_snoc]
          have h3 := h.2.1 (sJ x).length (Nat.le_refl _)
          rw [List.take_length] at h3
          show 0 ≤ (jst (sN x) (sJ x)).2.2 - (if 100 ≤ a + 100 * del then 1 else 0)
          split <;> omega
      · have hj : (sJ x ++ [a + 100 * del])[j]? = some c := hj
        show aTl (sN x) (c % 100) = (jst (sN x) ((sJ x ++ [a + 100 * del]).take j)).1
        rcases snoc_get hj with hj | ⟨rfl, rfl⟩
        · have hl := (List.getElem?_eq_some_iff.mp hj).1
          rw [List.take_append_of_le_length (by omega)]
          exact h.2.2 j c hj
        · rw [List.take_append_of_le_length (Nat.le_refl _), List.take_length, hm]
          exact d3
    · exact h
theorem GX_beg : GX (begN 2 0 1, [], [], []) := GX_nil (begN_wf (by omega)) (fun l hl => by cases hl) pOK_nil
def HX (H : List Sg) : Prop := ∀ y ∈ H, GX y
theorem HX_new (h : GX x) (hH : HX H) : HX ((x :: H).take 8) := fun y hy => by
  rcases List.mem_cons.mp (List.mem_of_mem_take hy) with rfl | hy
  · exact h
  · exact hH y hy
theorem HX_hist {k : Int} (h : GX x) (hH : HX H) : HX (hist k x H) := by
  unfold hist
  split
  · exact HX_new h hH
  · exact hH
end GG
