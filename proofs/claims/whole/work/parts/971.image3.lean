section
variable {n K : Nat} {Y Y2 Y0 : Yc} {X X2 X0 : Xc} {o r : Nat}
theorem x_head (hr : r < 7) : WX X0 (fun X Q => (wx_X12_write (79 : Int32) X (fun (X6 : Xc) => (wx_X12_write (82 : Int32) X6 (fun (X10 : Xc) => (wx_X12_write (87 : Int32) X10 (fun (X14 : Xc) => (wx_X12_write (75 : Int32) X14 (fun (X18 : Xc) => (wx_X12_write (nI r) X18 (fun (X22 : Xc) => (vp_in (nI r) 7 ∧ (∀ x25 : Int32, x25 = X22.2 23 (nI r).toNatClampNeg → (wx_X12_write x25 X22 (fun (X29 : Xc) => (wx_X12_write (0 : Int32) X29 (fun (X33 : Xc) => (wx_X12_write (0 : Int32) X33 (fun (X37 : Xc) => (vp_in (nI r) 7 ∧ (∀ x40 : Int32, x40 = X37.2 21 (nI r).toNatClampNeg → (wx_X12_writeWord x40 X37 (fun (X44 : Xc) => (vp_in (nI r) 7 ∧ (∀ x47 : Int32, x47 = X44.2 22 (nI r).toNatClampNeg → (wx_X12_writeWord x47 X44 (fun (X51 : Xc) => (vp_in (nI r) 7 ∧ (∀ x54 : Int32, x54 = X51.2 24 (nI r).toNatClampNeg → (wx_X12_writeWord x54 X51 (fun (X58 : Xc) => (vp_in (nI r) 7 ∧ (∀ x61 : Int32, x61 = X58.2 25 (nI r).toNatClampNeg → (wx_X12_writeWord x61 X58 (fun (X65 : Xc) => (vp_in (nI r) 7 ∧ (∀ x68 : Int32, x68 = X65.2 27 (nI r).toNatClampNeg → (wx_X12_writeWord x68 X65 (fun (X72 : Xc) => (vp_in (nI r) 7 ∧ (∀ x75 : Int32, x75 = X72.2 28 (nI r).toNatClampNeg → (wx_X12_writeWord x75 X72 (fun (X79 : Xc) => (vp_in (nI r) 7 ∧ (∀ x82 : Int32, x82 = X79.2 29 (nI r).toNatClampNeg → (wx_X12_writeWord x82 X79 (fun (X86 : Xc) => (vp_in (nI r) 7 ∧ (∀ x89 : Int32, x89 = X86.2 26 (nI r).toNatClampNeg → (wx_X12_writeWord x89 X86 (fun (X93 : Xc) => (wx_X12_endBlock (0 : Int32) X93 (fun (X97 : Xc) => Q X97))))))))))))))))))))))))))))))))))))))))))))))))))))) [] (eB 0 (imH (nI r) (X0.2 23 r) (X0.2 21 r) (X0.2 22 r) (X0.2 24 r) (X0.2 25 r) (X0.2 27 r) (X0.2 28 r) (X0.2 29 r) (X0.2 26 r))) := by
  have hc : (nI r).toNatClampNeg = r := nI_clamp (by omega)
  have hv : vp_in (nI r) 7 := vp_in_nI hr (by omega)
  have rd : ∀ k, k ≠ 88 → ∀ X, OX 88 89 X0 X → X.2 k (nI r).toNatClampNeg = X0.2 k r := fun k hk X g => by rw [hc]; exact g.2 k r hk
  refine WX.seq (WX.add (by simp only [a1_len, aW_len, List.length_nil] <;> omega) _) ?_
  refine WX.seq (WX.add (by simp only [a1_len, aW_len, List.length_nil] <;> omega) _) ?_
  refine WX.seq (WX.add (by simp only [a1_len, aW_len, List.length_nil] <;> omega) _) ?_
  refine WX.seq (WX.add (by simp only [a1_len, aW_len, List.length_nil] <;> omega) _) ?_
  refine WX.seq (WX.add (by simp only [a1_len, aW_len, List.length_nil] <;> omega) _) ?_
  refine WX.gd hv ?_
  refine WX.rd _ (rd 23 (by omega)) ?_
  refine WX.seq (WX.add (by simp only [a1_len, aW_len, List.length_nil] <;> omega) _) ?_
  refine WX.seq (WX.add (by simp only [a1_len, aW_len, List.length_nil] <;> omega) _) ?_
  refine WX.seq (WX.add (by simp only [a1_len, aW_len, List.length_nil] <;> omega) _) ?_
  refine WX.gd hv ?_
  refine WX.rd _ (rd 21 (by omega)) ?_
  refine WX.seq (WX.word (by simp only [a1_len, aW_len, List.length_nil] <;> omega) _) ?_
  refine WX.gd hv ?_
  refine WX.rd _ (rd 22 (by omega)) ?_
  refine WX.seq (WX.word (by simp only [a1_len, aW_len, List.length_nil] <;> omega) _) ?_
  refine WX.gd hv ?_
  refine WX.rd _ (rd 24 (by omega)) ?_
  refine WX.seq (WX.word (by simp only [a1_len, aW_len, List.length_nil] <;> omega) _) ?_
  refine WX.gd hv ?_
  refine WX.rd _ (rd 25 (by omega)) ?_
  refine WX.seq (WX.word (by simp only [a1_len, aW_len, List.length_nil] <;> omega) _) ?_
  refine WX.gd hv ?_
  refine WX.rd _ (rd 27 (by omega)) ?_
  refine WX.seq (WX.word (by simp only [a1_len, aW_len, List.length_nil] <;> omega) _) ?_
  refine WX.gd hv ?_
  refine WX.rd _ (rd 28 (by omega)) ?_
  refine WX.seq (WX.word (by simp only [a1_len, aW_len, List.length_nil] <;> omega) _) ?_
  refine WX.gd hv ?_
  refine WX.rd _ (rd 29 (by omega)) ?_
  refine WX.seq (WX.word (by simp only [a1_len, aW_len, List.length_nil] <;> omega) _) ?_
  refine WX.gd hv ?_
  refine WX.rd _ (rd 26 (by omega)) ?_
  refine WX.seq (WX.word (by simp only [a1_len, aW_len, List.length_nil] <;> omega) _) ?_
  exact WX.seq (WX.endB (b := 0) (by omega) (512 * (0 + 1) - 4 - 40) _ (by rw [← imH, imH_len])) (fun X g w => ⟨X, g, w, fun Q hQ => hQ⟩)
def CdI (e : Nat) (v : Int32) : Prop := e = 0 ∧ v = 1
theorem image_call (S : Sim n K Y X) (p : Int32) : OutV n K CdI Y (wy_X11_image n p Y) (wx_X12_image p X) := by
  have hn := S.sc.n7
  rcases repl S p with ⟨r, hr, rfl⟩ | ⟨hy, hx⟩
  · have S0 := sim_code S 0
    have hc : (nI r).toNatClampNeg = r := nI_clamp (by omega)
    have g := (S.pcs.1 r hr).2.1
    unfold LgS at g
    obtain ⟨g1, g2, ⟨L, hL, g3⟩, g4, g5⟩ := g
    have hln : ln (X.2 26 r) = L := by rw [g3]; exact nI_clamp (by omega)
    have hf : (fun s => if s < L then yS Y 200 r s else none) = (fun s => if s < L then xE X (100 * r + s) else none) := by
      funext s
      by_cases h : s < L
      · rw [if_pos h, if_pos h]
        exact (g5 s (by rw [hln]; exact h)).1
      · rw [if_neg h, if_neg h]
    have hh := eB_len (b := 0) (h := imH (nI r) (X.2 23 r) (X.2 21 r) (X.2 22 r) (X.2 24 r) (X.2 25 r) (X.2 27 r) (X.2 28 r) (X.2 29 r) (X.2 26 r)) (by rw [imH_len]; omega)
    obtain ⟨Y1, gy1, wy1, ry1⟩ := y_head S hr (uI Y 1 0 0) (OY.rf.wI _) ⟨by rw [yII, if_pos ⟨rfl, rfl⟩]; rfl, fun i hi => absurd hi (by simp)⟩
    obtain ⟨Y2, gy2, wy2, ry2⟩ := WY.endB (n := n) (Y0 := Y) (b := 0) (by omega) (by rw [imH_len]; omega) Y1 gy1 wy1
    obtain ⟨Y3, gy3, wy3, ry3⟩ := y_blks hr hn hL (g1.trans g3) 4 1 _ (by omega) (by omega) (by rw [hh]) Y2 gy2 wy2
    obtain ⟨X2, gx2, wx2, rx2⟩ := x_head (X0 := xS X 0 0) (r := r) (by omega) (xS (xS X 0 0) 89 0) (OX.rf.wS _) ⟨rfl, fun i hi => absurd hi (by simp)⟩
    obtain ⟨X3, gx3, wx3, rx3⟩ := x_blks (X0 := xS X 0 0) (p := r) (by omega) hL g3 4 1 _ (by omega) (by omega) (by rw [eB_len (by rw [imH_len]; omega)]) X2 gx2 wx2
    have wx3 : XW 88 89 X3 (blks (fun s => if s < L then xE X (100 * r + s) else none) 1 4 (eB 0 (imH (nI r) (X.2 23 r) (X.2 21 r) (X.2 22 r) (X.2 24 r) (X.2 25 r) (X.2 27 r) (X.2 28 r) (X.2 29 r) (X.2 26 r)))) := wx3
    rw [hf] at wy3
    refine Or.inl ⟨nI 2560, Y3, X3, fun Q E hQ => ?_, fun Q hQ => ?_, gx3.1 0 (by omega), out_sim S0 gy3 gx3 wy3 wx3 (Nat.le_of_eq (blks_len 4 1 _ hh))⟩
    · unfold wy_X11_image
      refine y_isReplica hr hn _ ⟨fun _ => ⟨vp_in_nI hr (by omega), ?_⟩, fun q => absurd q (by decide)⟩
      rw [hc]
      exact ry1 _ (ry2 _ (ry3 Q E hQ))
    · unfold wx_X12_image
      refine x_isReplica S hr _ ⟨fun q => absurd q (by decide), fun _ => ?_⟩
      unfold bx_X12_image_14
      intro x1 e1
      have e1 : x1 = 0 := e1
      subst e1
      exact ⟨fun _ => rx2 _ (rx3 Q hQ), fun q => absurd (by decide) q⟩
  · refine Or.inr ⟨0, 0, xS X 0 1, fun Q E hE => ?_, fun Q hQ => ?_, ⟨rfl, rfl⟩, sim_code S 1⟩
    · unfold wy_X11_image
      exact hy _ ⟨fun q => absurd rfl q, fun _ => hE⟩
    · unfold wx_X12_image
      refine hx _ ⟨fun _ => ?_, fun q => absurd rfl q⟩
      unfold bx_X12_image_14
      intro x1 e1
      have e1 : x1 = 1 := e1
      subst e1
      exact ⟨fun q => absurd q (by decide), fun _ => hQ⟩
end
