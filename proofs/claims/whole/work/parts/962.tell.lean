section
variable {n K : Nat} {Y Y2 : Yc} {X X2 : Xc}
/-- a call that only tells -/
def OutP (n K : Nat) (wy : (Int32 → Yc → Prop) → Prop) (wx : (Int32 → Xc → Prop) → Prop) : Prop := ∃ v Y2 X2, (∀ Q, Q v Y2 → wy Q) ∧ (∀ Q, Q v X2 → wx Q) ∧ Sim n K Y2 X2
theorem sw_cases (p : Int32) (b : Nat) (hb : b < 2 ^ 31) : (p.toInt < 0 ∨ (b : Int) < p.toInt) ∨ ∃ k, k ≤ b ∧ p = nI k := by
  rcases i32_cases p with h | ⟨k, hk, rfl⟩
  · refine Or.inl (Or.inl ?_)
    rw [Int32.lt_iff_toInt_lt] at h
    have h0 : (0 : Int32).toInt = 0 := by decide
    omega
  · by_cases h : k ≤ b
    · exact Or.inr ⟨k, h, rfl⟩
    · refine Or.inl (Or.inr ?_)
      rw [nI_toInt hk]
      omega
theorem replica_call (S : Sim n K Y X) (p p2 : Int32) : OutP n K (wy_X11_replica n p p2 Y) (wx_X12_replica p p2 X) := by
  have hn := S.sc.n7
  have S0 := sim_code S 0
  rcases repl S0 p with ⟨r, hr, rfl⟩ | ⟨hy, hx⟩
  · obtain ⟨hcr, hv7, hvn⟩ := rep_arg S hr
    have R := S.rp hr
    rcases sw_cases p2 10 (by omega) with hd | ⟨k, hk, rfl⟩
    · refine ⟨-1, Y, xS X 0 0, fun Q hQ => y_isReplica hr hn _ ⟨fun _ => ⟨hvn, ?_⟩, fun q => absurd q (by decide)⟩, fun Q hQ => x_isReplica S0 hr _ ⟨fun _ => ?_, fun q => absurd q (by decide)⟩, S0⟩
      · exact ⟨fun _ => hQ, fun q => absurd hd (by rw [q]; decide), fun q => absurd hd (by rw [q]; decide), fun q => absurd hd (by rw [q]; decide), fun q => absurd hd (by rw [q]; decide), fun q => absurd hd (by rw [q]; decide), fun q => absurd hd (by rw [q]; decide), fun q => absurd hd (by rw [q]; decide), fun q => absurd hd (by rw [q]; decide), fun q => absurd hd (by rw [q]; decide), fun q => absurd hd (by rw [q]; decide), fun q => absurd hd (by rw [q]; decide)⟩
      · exact ⟨fun _ => hQ, fun q => absurd hd (by rw [q]; decide), fun q => absurd hd (by rw [q]; decide), fun q => absurd hd (by rw [q]; decide), fun q => absurd hd (by rw [q]; decide), fun q => absurd hd (by rw [q]; decide), fun q => absurd hd (by rw [q]; decide), fun q => absurd hd (by rw [q]; decide), fun q => absurd hd (by rw [q]; decide), fun q => absurd hd (by rw [q]; decide), fun q => absurd hd (by rw [q]; decide), fun q => absurd hd (by rw [q]; decide)⟩
    · rcases (show k = 0 ∨ k = 1 ∨ k = 2 ∨ k = 3 ∨ k = 4 ∨ k = 5 ∨ k = 6 ∨ k = 7 ∨ k = 8 ∨ k = 9 ∨ k = 10 by omega) with rfl | rfl | rfl | rfl | rfl | rfl | rfl | rfl | rfl | rfl | rfl
      · refine ⟨if X.2 20 r = 0 then 0 else 1, Y, xS X 0 0, fun Q hQ => y_isReplica hr hn _ ⟨fun _ => ⟨hvn, ?_⟩, fun q => absurd q (by decide)⟩, fun Q hQ => x_isReplica S0 hr _ ⟨fun _ => ?_, fun q => absurd q (by decide)⟩, S0⟩
        · exact ⟨fun q => absurd q (by decide), fun _ x17 e17 => by rw [hcr, R.dwn] at e17; subst e17; exact ⟨fun q => by rw [if_pos q] at hQ; exact hQ, fun q => by rw [if_neg q] at hQ; exact hQ⟩, fun q => absurd q (by decide), fun q => absurd q (by decide), fun q => absurd q (by decide), fun q => absurd q (by decide), fun q => absurd q (by decide), fun q => absurd q (by decide), fun q => absurd q (by decide), fun q => absurd q (by decide), fun q => absurd q (by decide), fun q => absurd q (by decide)⟩
        · exact ⟨fun q => absurd q (by decide), fun _ => ⟨hv7, fun x8 e8 => by rw [hcr] at e8; subst e8; exact ⟨fun q => by have q : X.2 20 r = 0 := q; rw [if_pos q] at hQ; exact hQ, fun q => by have q : ¬ X.2 20 r = 0 := q; rw [if_neg q] at hQ; exact hQ⟩⟩, fun q => absurd q (by decide), fun q => absurd q (by decide), fun q => absurd q (by decide), fun q => absurd q (by decide), fun q => absurd q (by decide), fun q => absurd q (by decide), fun q => absurd q (by decide), fun q => absurd q (by decide), fun q => absurd q (by decide), fun q => absurd q (by decide)⟩
      · refine ⟨X.2 23 r, Y, xS X 0 0, fun Q hQ => y_isReplica hr hn _ ⟨fun _ => ⟨hvn, ?_⟩, fun q => absurd q (by decide)⟩, fun Q hQ => x_isReplica S0 hr _ ⟨fun _ => ?_, fun q => absurd q (by decide)⟩, S0⟩
        · exact ⟨fun q => absurd q (by decide), fun q => absurd q (by decide), fun _ x21 e21 => by rw [hcr, R.sta] at e21; subst e21; exact hQ, fun q => absurd q (by decide), fun q => absurd q (by decide), fun q => absurd q (by decide), fun q => absurd q (by decide), fun q => absurd q (by decide), fun q => absurd q (by decide), fun q => absurd q (by decide), fun q => absurd q (by decide), fun q => absurd q (by decide)⟩
        · exact ⟨fun q => absurd q (by decide), fun q => absurd q (by decide), fun _ => ⟨hv7, fun x12 e12 => by rw [hcr] at e12; subst e12; exact hQ⟩, fun q => absurd q (by decide), fun q => absurd q (by decide), fun q => absurd q (by decide), fun q => absurd q (by decide), fun q => absurd q (by decide), fun q => absurd q (by decide), fun q => absurd q (by decide), fun q => absurd q (by decide), fun q => absurd q (by decide)⟩
      · refine ⟨X.2 21 r, Y, xS X 0 0, fun Q hQ => y_isReplica hr hn _ ⟨fun _ => ⟨hvn, ?_⟩, fun q => absurd q (by decide)⟩, fun Q hQ => x_isReplica S0 hr _ ⟨fun _ => ?_, fun q => absurd q (by decide)⟩, S0⟩
        · exact ⟨fun q => absurd q (by decide), fun q => absurd q (by decide), fun q => absurd q (by decide), fun _ y24 e24 => by rw [hcr, R.vie] at e24; subst e24; unfold wy_X11_leadOf; rw [vw_lead]; exact hQ, fun q => absurd q (by decide), fun q => absurd q (by decide), fun q => absurd q (by decide), fun q => absurd q (by decide), fun q => absurd q (by decide), fun q => absurd q (by decide), fun q => absurd q (by decide), fun q => absurd q (by decide)⟩
        · exact ⟨fun q => absurd q (by decide), fun q => absurd q (by decide), fun q => absurd q (by decide), fun _ => ⟨hv7, fun x12 e12 => by rw [hcr] at e12; subst e12; exact hQ⟩, fun q => absurd q (by decide), fun q => absurd q (by decide), fun q => absurd q (by decide), fun q => absurd q (by decide), fun q => absurd q (by decide), fun q => absurd q (by decide), fun q => absurd q (by decide), fun q => absurd q (by decide)⟩
      · refine ⟨X.2 22 r, Y, xS X 0 0, fun Q hQ => y_isReplica hr hn _ ⟨fun _ => ⟨hvn, ?_⟩, fun q => absurd q (by decide)⟩, fun Q hQ => x_isReplica S0 hr _ ⟨fun _ => ?_, fun q => absurd q (by decide)⟩, S0⟩
        · exact ⟨fun q => absurd q (by decide), fun q => absurd q (by decide), fun q => absurd q (by decide), fun q => absurd q (by decide), fun _ y24 e24 => by rw [hcr, R.vie] at e24; subst e24; unfold wy_X11_sessionOf; rw [vw_sess]; exact hQ, fun q => absurd q (by decide), fun q => absurd q (by decide), fun q => absurd q (by decide), fun q => absurd q (by decide), fun q => absurd q (by decide), fun q => absurd q (by decide), fun q => absurd q (by decide)⟩
        · exact ⟨fun q => absurd q (by decide), fun q => absurd q (by decide), fun q => absurd q (by decide), fun q => absurd q (by decide), fun _ => ⟨hv7, fun x12 e12 => by rw [hcr] at e12; subst e12; exact hQ⟩, fun q => absurd q (by decide), fun q => absurd q (by decide), fun q => absurd q (by decide), fun q => absurd q (by decide), fun q => absurd q (by decide), fun q => absurd q (by decide), fun q => absurd q (by decide)⟩
      · refine ⟨X.2 27 r, Y, xS X 0 0, fun Q hQ => y_isReplica hr hn _ ⟨fun _ => ⟨hvn, ?_⟩, fun q => absurd q (by decide)⟩, fun Q hQ => x_isReplica S0 hr _ ⟨fun _ => ?_, fun q => absurd q (by decide)⟩, S0⟩
        · exact ⟨fun q => absurd q (by decide), fun q => absurd q (by decide), fun q => absurd q (by decide), fun q => absurd q (by decide), fun q => absurd q (by decide), fun _ x21 e21 => by rw [hcr, (S.lg hr).2.1] at e21; subst e21; exact hQ, fun q => absurd q (by decide), fun q => absurd q (by decide), fun q => absurd q (by decide), fun q => absurd q (by decide), fun q => absurd q (by decide), fun q => absurd q (by decide)⟩
        · exact ⟨fun q => absurd q (by decide), fun q => absurd q (by decide), fun q => absurd q (by decide), fun q => absurd q (by decide), fun q => absurd q (by decide), fun _ => ⟨hv7, fun x12 e12 => by rw [hcr] at e12; subst e12; exact hQ⟩, fun q => absurd q (by decide), fun q => absurd q (by decide), fun q => absurd q (by decide), fun q => absurd q (by decide), fun q => absurd q (by decide), fun q => absurd q (by decide)⟩
      · refine ⟨X.2 26 r, Y, xS X 0 0, fun Q hQ => y_isReplica hr hn _ ⟨fun _ => ⟨hvn, ?_⟩, fun q => absurd q (by decide)⟩, fun Q hQ => x_isReplica S0 hr _ ⟨fun _ => ?_, fun q => absurd q (by decide)⟩, S0⟩
        · exact ⟨fun q => absurd q (by decide), fun q => absurd q (by decide), fun q => absurd q (by decide), fun q => absurd q (by decide), fun q => absurd q (by decide), fun q => absurd q (by decide), fun _ x21 e21 => by rw [hcr, (S.lg hr).1] at e21; subst e21; exact hQ, fun q => absurd q (by decide), fun q => absurd q (by decide), fun q => absurd q (by decide), fun q => absurd q (by decide), fun q => absurd q (by decide)⟩
        · exact ⟨fun q => absurd q (by decide), fun q => absurd q (by decide), fun q => absurd q (by decide), fun q => absurd q (by decide), fun q => absurd q (by decide), fun q => absurd q (by decide), fun _ => ⟨hv7, fun x12 e12 => by rw [hcr] at e12; subst e12; exact hQ⟩, fun q => absurd q (by decide), fun q => absurd q (by decide), fun q => absurd q (by decide), fun q => absurd q (by decide), fun q => absurd q (by decide)⟩
      · refine ⟨X.2 28 r, Y, xS X 0 0, fun Q hQ => y_isReplica hr hn _ ⟨fun _ => ⟨hvn, ?_⟩, fun q => absurd q (by decide)⟩, fun Q hQ => x_isReplica S0 hr _ ⟨fun _ => ?_, fun q => absurd q (by decide)⟩, S0⟩
        · exact ⟨fun q => absurd q (by decide), fun q => absurd q (by decide), fun q => absurd q (by decide), fun q => absurd q (by decide), fun q => absurd q (by decide), fun q => absurd q (by decide), fun q => absurd q (by decide), fun _ x21 e21 => by rw [hcr, R.pnt] at e21; subst e21; exact hQ, fun q => absurd q (by decide), fun q => absurd q (by decide), fun q => absurd q (by decide), fun q => absurd q (by decide)⟩
        · exact ⟨fun q => absurd q (by decide), fun q => absurd q (by decide), fun q => absurd q (by decide), fun q => absurd q (by decide), fun q => absurd q (by decide), fun q => absurd q (by decide), fun q => absurd q (by decide), fun _ => ⟨hv7, fun x12 e12 => by rw [hcr] at e12; subst e12; exact hQ⟩, fun q => absurd q (by decide), fun q => absurd q (by decide), fun q => absurd q (by decide), fun q => absurd q (by decide)⟩
      · refine ⟨X.2 36 r, Y, xS X 0 0, fun Q hQ => y_isReplica hr hn _ ⟨fun _ => ⟨hvn, ?_⟩, fun q => absurd q (by decide)⟩, fun Q hQ => x_isReplica S0 hr _ ⟨fun _ => ?_, fun q => absurd q (by decide)⟩, S0⟩
        · exact ⟨fun q => absurd q (by decide), fun q => absurd q (by decide), fun q => absurd q (by decide), fun q => absurd q (by decide), fun q => absurd q (by decide), fun q => absurd q (by decide), fun q => absurd q (by decide), fun q => absurd q (by decide), fun _ x21 e21 => by rw [hcr, (S.hd hr).1] at e21; subst e21; exact hQ, fun q => absurd q (by decide), fun q => absurd q (by decide), fun q => absurd q (by decide)⟩
        · exact ⟨fun q => absurd q (by decide), fun q => absurd q (by decide), fun q => absurd q (by decide), fun q => absurd q (by decide), fun q => absurd q (by decide), fun q => absurd q (by decide), fun q => absurd q (by decide), fun q => absurd q (by decide), fun _ => ⟨hv7, fun x12 e12 => by rw [hcr] at e12; subst e12; exact hQ⟩, fun q => absurd q (by decide), fun q => absurd q (by decide), fun q => absurd q (by decide)⟩
      · refine ⟨X.2 24 r, Y, xS X 0 0, fun Q hQ => y_isReplica hr hn _ ⟨fun _ => ⟨hvn, ?_⟩, fun q => absurd q (by decide)⟩, fun Q hQ => x_isReplica S0 hr _ ⟨fun _ => ?_, fun q => absurd q (by decide)⟩, S0⟩
        · exact ⟨fun q => absurd q (by decide), fun q => absurd q (by decide), fun q => absurd q (by decide), fun q => absurd q (by decide), fun q => absurd q (by decide), fun q => absurd q (by decide), fun q => absurd q (by decide), fun q => absurd q (by decide), fun q => absurd q (by decide), fun _ y24 e24 => by rw [hcr, R.nor] at e24; subst e24; unfold wy_X11_leadOf; rw [vw_lead]; exact hQ, fun q => absurd q (by decide), fun q => absurd q (by decide)⟩
        · exact ⟨fun q => absurd q (by decide), fun q => absurd q (by decide), fun q => absurd q (by decide), fun q => absurd q (by decide), fun q => absurd q (by decide), fun q => absurd q (by decide), fun q => absurd q (by decide), fun q => absurd q (by decide), fun q => absurd q (by decide), fun _ => ⟨hv7, fun x12 e12 => by rw [hcr] at e12; subst e12; exact hQ⟩, fun q => absurd q (by decide), fun q => absurd q (by decide)⟩
      · refine ⟨X.2 25 r, Y, xS X 0 0, fun Q hQ => y_isReplica hr hn _ ⟨fun _ => ⟨hvn, ?_⟩, fun q => absurd q (by decide)⟩, fun Q hQ => x_isReplica S0 hr _ ⟨fun _ => ?_, fun q => absurd q (by decide)⟩, S0⟩
        · exact ⟨fun q => absurd q (by decide), fun q => absurd q (by decide), fun q => absurd q (by decide), fun q => absurd q (by decide), fun q => absurd q (by decide), fun q => absurd q (by decide), fun q => absurd q (by decide), fun q => absurd q (by decide), fun q => absurd q (by decide), fun q => absurd q (by decide), fun _ y24 e24 => by rw [hcr, R.nor] at e24; subst e24; unfold wy_X11_sessionOf; rw [vw_sess]; exact hQ, fun q => absurd q (by decide)⟩
        · exact ⟨fun q => absurd q (by decide), fun q => absurd q (by decide), fun q => absurd q (by decide), fun q => absurd q (by decide), fun q => absurd q (by decide), fun q => absurd q (by decide), fun q => absurd q (by decide), fun q => absurd q (by decide), fun q => absurd q (by decide), fun q => absurd q (by decide), fun _ => ⟨hv7, fun x12 e12 => by rw [hcr] at e12; subst e12; exact hQ⟩, fun q => absurd q (by decide)⟩
      · refine ⟨X.2 29 r, Y, xS X 0 0, fun Q hQ => y_isReplica hr hn _ ⟨fun _ => ⟨hvn, ?_⟩, fun q => absurd q (by decide)⟩, fun Q hQ => x_isReplica S0 hr _ ⟨fun _ => ?_, fun q => absurd q (by decide)⟩, S0⟩
        · exact ⟨fun q => absurd q (by decide), fun q => absurd q (by decide), fun q => absurd q (by decide), fun q => absurd q (by decide), fun q => absurd q (by decide), fun q => absurd q (by decide), fun q => absurd q (by decide), fun q => absurd q (by decide), fun q => absurd q (by decide), fun q => absurd q (by decide), fun q => absurd q (by decide), fun _ x21 e21 => by rw [hcr, R.syn] at e21; subst e21; exact hQ⟩
        · exact ⟨fun q => absurd q (by decide), fun q => absurd q (by decide), fun q => absurd q (by decide), fun q => absurd q (by decide), fun q => absurd q (by decide), fun q => absurd q (by decide), fun q => absurd q (by decide), fun q => absurd q (by decide), fun q => absurd q (by decide), fun q => absurd q (by decide), fun q => absurd q (by decide), fun _ => ⟨hv7, fun x12 e12 => by rw [hcr] at e12; subst e12; exact hQ⟩⟩
  · exact ⟨-1, Y, xS X 0 0, fun Q hQ => hy _ ⟨fun q => absurd rfl q, fun _ => hQ⟩, fun Q hQ => hx _ ⟨fun q => absurd rfl q, fun _ => hQ⟩, S0⟩
theorem about_call (S : Sim n K Y X) (p : Int32) : OutP n K (wy_X11_about n p Y) (wx_X12_about p X) := by
  have S0 := sim_code S 0
  rcases sw_cases p 8 (by omega) with hd | ⟨k, hk, rfl⟩
  · refine ⟨-1, Y, xS X 0 0, fun Q hQ => ?_, fun Q hQ => ?_, S0⟩
    · exact ⟨fun _ => hQ, fun q => absurd hd (by rw [q]; decide), fun q => absurd hd (by rw [q]; decide), fun q => absurd hd (by rw [q]; decide), fun q => absurd hd (by rw [q]; decide), fun q => absurd hd (by rw [q]; decide), fun q => absurd hd (by rw [q]; decide), fun q => absurd hd (by rw [q]; decide), fun q => absurd hd (by rw [q]; decide), fun q => absurd hd (by rw [q]; decide)⟩
    · exact ⟨fun _ => hQ, fun q => absurd hd (by rw [q]; decide), fun q => absurd hd (by rw [q]; decide), fun q => absurd hd (by rw [q]; decide), fun q => absurd hd (by rw [q]; decide), fun q => absurd hd (by rw [q]; decide), fun q => absurd hd (by rw [q]; decide), fun q => absurd hd (by rw [q]; decide), fun q => absurd hd (by rw [q]; decide), fun q => absurd hd (by rw [q]; decide)⟩
  · have har : yI Y 405 0 = X.1 6 := by
      obtain ⟨cnt, od, _, _, e5, x6, _⟩ := S.ar
      rw [e5, x6]
    rcases (show k = 0 ∨ k = 1 ∨ k = 2 ∨ k = 3 ∨ k = 4 ∨ k = 5 ∨ k = 6 ∨ k = 7 ∨ k = 8 by omega) with rfl | rfl | rfl | rfl | rfl | rfl | rfl | rfl | rfl
    · refine ⟨X.1 6, Y, xS X 0 0, fun Q hQ => ?_, fun Q hQ => ?_, S0⟩
      · exact ⟨fun q => absurd q (by decide), fun _ x4 e4 => by rw [har] at e4; subst e4; exact hQ, fun q => absurd q (by decide), fun q => absurd q (by decide), fun q => absurd q (by decide), fun q => absurd q (by decide), fun q => absurd q (by decide), fun q => absurd q (by decide), fun q => absurd q (by decide), fun q => absurd q (by decide)⟩
      · exact ⟨fun q => absurd q (by decide), fun _ x2 e2 => by have e2 : x2 = X.1 6 := e2; subst e2; exact hQ, fun q => absurd q (by decide), fun q => absurd q (by decide), fun q => absurd q (by decide), fun q => absurd q (by decide), fun q => absurd q (by decide), fun q => absurd q (by decide), fun q => absurd q (by decide), fun q => absurd q (by decide)⟩
    · refine ⟨X.1 7, Y, xS X 0 0, fun Q hQ => ?_, fun Q hQ => ?_, S0⟩
      · exact ⟨fun q => absurd q (by decide), fun q => absurd q (by decide), fun _ x4 e4 => by rw [S.sc.snt] at e4; subst e4; exact hQ, fun q => absurd q (by decide), fun q => absurd q (by decide), fun q => absurd q (by decide), fun q => absurd q (by decide), fun q => absurd q (by decide), fun q => absurd q (by decide), fun q => absurd q (by decide)⟩
      · exact ⟨fun q => absurd q (by decide), fun q => absurd q (by decide), fun _ x2 e2 => by have e2 : x2 = X.1 7 := e2; subst e2; exact hQ, fun q => absurd q (by decide), fun q => absurd q (by decide), fun q => absurd q (by decide), fun q => absurd q (by decide), fun q => absurd q (by decide), fun q => absurd q (by decide), fun q => absurd q (by decide)⟩
    · refine ⟨X.1 8, Y, xS X 0 0, fun Q hQ => ?_, fun Q hQ => ?_, S0⟩
      · exact ⟨fun q => absurd q (by decide), fun q => absurd q (by decide), fun q => absurd q (by decide), fun _ x4 e4 => by rw [S.sc.lst] at e4; subst e4; exact hQ, fun q => absurd q (by decide), fun q => absurd q (by decide), fun q => absurd q (by decide), fun q => absurd q (by decide), fun q => absurd q (by decide), fun q => absurd q (by decide)⟩
      · exact ⟨fun q => absurd q (by decide), fun q => absurd q (by decide), fun q => absurd q (by decide), fun _ x2 e2 => by have e2 : x2 = X.1 8 := e2; subst e2; exact hQ, fun q => absurd q (by decide), fun q => absurd q (by decide), fun q => absurd q (by decide), fun q => absurd q (by decide), fun q => absurd q (by decide), fun q => absurd q (by decide)⟩
    · refine ⟨if X.1 16 = 0 then 0 else 1, Y, xS X 0 0, fun Q hQ => ?_, fun Q hQ => ?_, S0⟩
      · exact ⟨fun q => absurd q (by decide), fun q => absurd q (by decide), fun q => absurd q (by decide), fun q => absurd q (by decide), fun _ x14 e14 => by rw [S.sc.up] at e14; subst e14; exact ⟨fun q => by rw [if_pos q] at hQ; exact hQ, fun q => by rw [if_neg q] at hQ; exact hQ⟩, fun q => absurd q (by decide), fun q => absurd q (by decide), fun q => absurd q (by decide), fun q => absurd q (by decide), fun q => absurd q (by decide)⟩
      · exact ⟨fun q => absurd q (by decide), fun q => absurd q (by decide), fun q => absurd q (by decide), fun q => absurd q (by decide), fun _ x8 e8 => by have e8 : x8 = X.1 16 := e8; subst e8; exact ⟨fun q => by rw [if_pos q] at hQ; exact hQ, fun q => by rw [if_neg q] at hQ; exact hQ⟩, fun q => absurd q (by decide), fun q => absurd q (by decide), fun q => absurd q (by decide), fun q => absurd q (by decide), fun q => absurd q (by decide)⟩
    · refine ⟨X.1 17, Y, xS X 0 0, fun Q hQ => ?_, fun Q hQ => ?_, S0⟩
      · exact ⟨fun q => absurd q (by decide), fun q => absurd q (by decide), fun q => absurd q (by decide), fun q => absurd q (by decide), fun q => absurd q (by decide), fun _ x4 e4 => by rw [S.sc.ses] at e4; subst e4; exact hQ, fun q => absurd q (by decide), fun q => absurd q (by decide), fun q => absurd q (by decide), fun q => absurd q (by decide)⟩
      · exact ⟨fun q => absurd q (by decide), fun q => absurd q (by decide), fun q => absurd q (by decide), fun q => absurd q (by decide), fun q => absurd q (by decide), fun _ x2 e2 => by have e2 : x2 = X.1 17 := e2; subst e2; exact hQ, fun q => absurd q (by decide), fun q => absurd q (by decide), fun q => absurd q (by decide), fun q => absurd q (by decide)⟩
    · refine ⟨X.1 18, Y, xS X 0 0, fun Q hQ => ?_, fun Q hQ => ?_, S0⟩
      · exact ⟨fun q => absurd q (by decide), fun q => absurd q (by decide), fun q => absurd q (by decide), fun q => absurd q (by decide), fun q => absurd q (by decide), fun q => absurd q (by decide), fun _ x4 e4 => by rw [S.sc.stm] at e4; subst e4; exact hQ, fun q => absurd q (by decide), fun q => absurd q (by decide), fun q => absurd q (by decide)⟩
      · exact ⟨fun q => absurd q (by decide), fun q => absurd q (by decide), fun q => absurd q (by decide), fun q => absurd q (by decide), fun q => absurd q (by decide), fun q => absurd q (by decide), fun _ x2 e2 => by have e2 : x2 = X.1 18 := e2; subst e2; exact hQ, fun q => absurd q (by decide), fun q => absurd q (by decide), fun q => absurd q (by decide)⟩
    · refine ⟨X.1 81, Y, xS X 0 0, fun Q hQ => ?_, fun Q hQ => ?_, S0⟩
      · exact ⟨fun q => absurd q (by decide), fun q => absurd q (by decide), fun q => absurd q (by decide), fun q => absurd q (by decide), fun q => absurd q (by decide), fun q => absurd q (by decide), fun q => absurd q (by decide), fun _ x4 e4 => by rw [S.sc.acc] at e4; subst e4; exact hQ, fun q => absurd q (by decide), fun q => absurd q (by decide)⟩
      · exact ⟨fun q => absurd q (by decide), fun q => absurd q (by decide), fun q => absurd q (by decide), fun q => absurd q (by decide), fun q => absurd q (by decide), fun q => absurd q (by decide), fun q => absurd q (by decide), fun _ x2 e2 => by have e2 : x2 = X.1 81 := e2; subst e2; exact hQ, fun q => absurd q (by decide), fun q => absurd q (by decide)⟩
    · refine ⟨X.1 4, Y, xS X 0 0, fun Q hQ => ?_, fun Q hQ => ?_, S0⟩
      · exact ⟨fun q => absurd q (by decide), fun q => absurd q (by decide), fun q => absurd q (by decide), fun q => absurd q (by decide), fun q => absurd q (by decide), fun q => absurd q (by decide), fun q => absurd q (by decide), fun q => absurd q (by decide), fun _ x4 e4 => by rw [S.sc.tim] at e4; subst e4; exact hQ, fun q => absurd q (by decide)⟩
      · exact ⟨fun q => absurd q (by decide), fun q => absurd q (by decide), fun q => absurd q (by decide), fun q => absurd q (by decide), fun q => absurd q (by decide), fun q => absurd q (by decide), fun q => absurd q (by decide), fun q => absurd q (by decide), fun _ x2 e2 => by have e2 : x2 = X.1 4 := e2; subst e2; exact hQ, fun q => absurd q (by decide)⟩
    · refine ⟨X.1 3, Y, xS X 0 0, fun Q hQ => ?_, fun Q hQ => ?_, S0⟩
      · exact ⟨fun q => absurd q (by decide), fun q => absurd q (by decide), fun q => absurd q (by decide), fun q => absurd q (by decide), fun q => absurd q (by decide), fun q => absurd q (by decide), fun q => absurd q (by decide), fun q => absurd q (by decide), fun q => absurd q (by decide), fun _ x4 e4 => by rw [S.sc.pat] at e4; subst e4; exact hQ⟩
      · exact ⟨fun q => absurd q (by decide), fun q => absurd q (by decide), fun q => absurd q (by decide), fun q => absurd q (by decide), fun q => absurd q (by decide), fun q => absurd q (by decide), fun q => absurd q (by decide), fun q => absurd q (by decide), fun q => absurd q (by decide), fun _ x2 e2 => by have e2 : x2 = X.1 3 := e2; subst e2; exact hQ⟩
theorem answer_call (S : Sim n K Y X) (p : Int32) : OutP n K (wy_X11_answer n p Y) (wx_X12_answer p X) := by
  have S0 := sim_code S 0
  rcases clnt (n := n) Y (xS X 0 0) p with ⟨c, hc, rfl⟩ | ⟨hy, hx⟩
  · have hcc : (nI c).toNatClampNeg = c := nI_clamp (by omega)
    have hv4 : vp_in (nI c) 4 := vp_in_nI hc (by omega)
    have C := S.cl hc
    refine ⟨X.2 71 c, Y, xS X 0 0, fun Q hQ => y_isClient hc _ ⟨fun q => absurd q (by decide), fun _ => ⟨hv4, fun x18 e18 => ?_⟩⟩, fun Q hQ => x_isClient hc _ ⟨fun q => absurd q (by decide), fun _ => ⟨hv4, fun x7 e7 => ?_⟩⟩, S0⟩
    · rw [hcc, C.2.2.2.2.2.2.2.2.1] at e18
      subst e18
      exact hQ
    · rw [hcc] at e7
      subst e7
      exact hQ
  · exact ⟨0, Y, xS X 0 0, fun Q hQ => hy _ ⟨fun _ => hQ, fun q => absurd rfl q⟩, fun Q hQ => hx _ ⟨fun _ => hQ, fun q => absurd rfl q⟩, S0⟩
theorem tolds_call (S : Sim n K Y X) : OutP n K (wy_X11_tolds n Y) (wx_X12_tolds X) := by
  have R := S.pcs.2.2.2.2.2.2
  refine ⟨X.1 93, Y, xS X 0 0, fun Q hQ => ?_, fun Q hQ => ?_, sim_code S 0⟩
  · unfold wy_X11_tolds
    intro x3 e3
    rw [R.1] at e3
    subst e3
    exact hQ
  · unfold wx_X12_tolds
    intro x3 e3
    have e3 : x3 = X.1 93 := e3
    subst e3
    exact hQ
theorem fault_call (S : Sim n K Y X) (p : Int32) : OutP n K (wy_X11_fault n p Y) (wx_X12_fault p X) := by
  have R := S.pcs.2.2.2.2.2.2
  have S0 := sim_code S 0
  by_cases h0 : p = 0
  · subst h0
    refine ⟨X.1 95, Y, xS X 0 0, fun Q hQ => ⟨fun _ x4 e4 => ?_, fun q => absurd q (by decide), fun q => absurd rfl q.1⟩, fun Q hQ => ⟨fun q => absurd rfl q, fun _ x5 e5 => ?_⟩, S0⟩
    · rw [R.2.2.1] at e4
      subst e4
      exact hQ
    · have e5 : x5 = X.1 95 := e5
      subst e5
      exact hQ
  · by_cases h1 : p = 1
    · subst h1
      refine ⟨X.1 96, Y, xS X 0 0, fun Q hQ => ⟨fun q => absurd q (by decide), fun _ x4 e4 => ?_, fun q => absurd rfl q.2⟩, fun Q hQ => ⟨fun _ => ⟨fun q => absurd rfl q, fun _ x5 e5 => ?_⟩, fun q => absurd q (by decide)⟩, S0⟩
      · rw [R.2.2.2.1] at e4
        subst e4
        exact hQ
      · have e5 : x5 = X.1 96 := e5
        subst e5
        exact hQ
    · exact ⟨-1, Y, xS X 0 0, fun Q hQ => ⟨fun q => absurd q h0, fun q => absurd q h1, fun _ => hQ⟩, fun Q hQ => ⟨fun _ => ⟨fun _ => hQ, fun q => absurd q h1⟩, fun q => absurd q h0⟩, S0⟩
theorem told_call (S : Sim n K Y X) (p : Int32) : OutP n K (wy_X11_told n p Y) (wx_X12_told p X) := by
  obtain ⟨r1, ⟨M, hM, eM⟩, _, _, r5⟩ := S.pcs.2.2.2.2.2.2
  have hln : ln (nI M) = M := nI_clamp (by omega)
  rw [eM] at r1
  have S0 := sim_code S 0
  rcases i32_cases p with h | ⟨k, hk, rfl⟩
  · refine ⟨0, Y, xS X 0 0, fun Q hQ => ⟨fun _ => hQ, fun q => absurd h q⟩, fun Q hQ => ?_, S0⟩
    unfold wx_X12_told
    intro x1 e1
    exact x_inN h _ ⟨fun _ => hQ, fun q => absurd rfl q⟩
  · have hk0 : ¬ nI k < 0 := fun q => absurd ((nI_lti (a := k) (b := 0) hk (by omega)).mp q) (by omega)
    have hc : (nI k).toNatClampNeg = k := nI_clamp hk
    by_cases hkM : k < M
    · refine ⟨X.2 92 k, Y, xS X 0 0, fun Q hQ => ⟨fun q => absurd q hk0, fun _ x2 e2 => ?_⟩, fun Q hQ => ?_, S0⟩
      · rw [r1] at e2
        subst e2
        refine ⟨fun q => absurd q (nI_ge hkM (by omega)), fun _ => ⟨fun q => absurd q (nI_ge (a := k) (b := 609) (by omega) (by omega)), fun _ => ⟨vp_in_nI (by omega) (by omega), fun x9 e9 => ?_⟩⟩⟩
        rw [hc, r5 k (by rw [eM, hln]; exact hkM)] at e9
        subst e9
        exact hQ
      · unfold wx_X12_told
        intro x1 e1
        have e1 : x1 = nI M := e1.trans eM
        subst e1
        have z : nI M - (1 : Int32) = nI (M - 1) := nI_sub (a := M) (b := 1) (by omega)
        rw [z]
        refine x_in0 hk (by omega) _ ?_
        rw [if_pos (by omega)]
        refine ⟨fun q => absurd q (by decide), fun _ => ⟨vp_in_nI (by omega) (by omega), fun x9 e9 => ?_⟩⟩
        rw [hc] at e9
        subst e9
        exact hQ
    · refine ⟨0, Y, xS X 0 0, fun Q hQ => ⟨fun q => absurd q hk0, fun _ x2 e2 => ?_⟩, fun Q hQ => ?_, S0⟩
      · rw [r1] at e2
        subst e2
        exact ⟨fun _ => hQ, fun q => absurd (nI_le (by omega) hk) q⟩
      · unfold wx_X12_told
        intro x1 e1
        have e1 : x1 = nI M := e1.trans eM
        subst e1
        by_cases hM0 : M = 0
        · subst hM0
          unfold wx_X12_in
          have z : nI 0 - (1 : Int32) = -1 := by decide
          rw [z]
          exact ⟨fun _ => ⟨fun _ => hQ, fun q => absurd rfl q⟩, fun _ => ⟨fun _ => ⟨fun _ => hQ, fun q => absurd rfl q⟩, fun q => absurd (by
            rw [Int32.lt_iff_toInt_lt, nI_toInt hk]
            have : (-1 : Int32).toInt = -1 := by decide
            omega) q⟩⟩
        · have z : nI M - (1 : Int32) = nI (M - 1) := nI_sub (a := M) (b := 1) (by omega)
          rw [z]
          refine x_in0 hk (by omega) _ ?_
          rw [if_neg (by omega)]
          exact ⟨fun _ => hQ, fun q => absurd rfl q⟩
end
