theorem FacC_up {o : Nat} {F : PF} {fr lo fr2 lo2 : Nat} (h : FacC o F fr lo) (h1 : fr ≤ fr2) (h2 : lo ≤ lo2) : FacC o F fr2 lo2 := fun l D dA sz e0 mi kA vA fm hv ad sa g r x hsa hw => Met_mono (h l D dA sz e0 mi kA vA fm hv ad sa g r x hsa hw) h1 (Nat.le_refl _) (Nat.le_refl _) h2 (Nat.le_refl _) (Nat.le_refl _) (fun _ _ q => q) (fun _ _ _ _ q => q) (fun _ q => q)
theorem ExpC_up {o : Nat} {F : PF} {fr lo fr2 lo2 : Nat} (h : ExpC o F fr lo) (h1 : fr ≤ fr2) (h2 : lo ≤ lo2) : ExpC o F fr2 lo2 := fun l D dA sz e0 mi kA vA fm hv ad sa g r x hsa hw => Met_mono (h l D dA sz e0 mi kA vA fm hv ad sa g r x hsa hw) h1 (Nat.le_refl _) (Nat.le_refl _) h2 (Nat.le_refl _) (Nat.le_refl _) (fun _ _ q => q) (fun _ _ _ _ q => q) (fun _ q => q)
theorem TrmC_of {o : Nat} {F : PF} {fr lo : Nat} (hF : FacC o F fr lo) (hg : gdF F) (ho : o ≤ 8) : TrmC o (pTm F) (fr + 7) (lo + 171) := fun l D dA sz e0 mi kA vA fm h ad sa g r x hsa hw => v_QreadTerm l D dA sz e0 mi kA vA fm h ad sa g r x o F fr lo hsa hw hF hg ho
theorem ExpC_of {o : Nat} {F : PF} {fr lo : Nat} (hF : TrmC o F fr lo) (hg : gdF F) (ho : o ≤ 8) : ExpC o (pEx F) (fr + 7) (lo + 171) := fun l D dA sz e0 mi kA vA fm h ad sa g r x hsa hw => v_QreadExp l D dA sz e0 mi kA vA fm h ad sa g r x o F fr lo hsa hw hF hg ho
theorem OpnC_of {o : Nat} {F : PF} {fr lo : Nat} (hF : FacC o F fr lo) (hX : ExpC o (pEx (pTm F)) fr lo) (hg : gdF F) (ho : o ≤ 8) : OpnC o (pOp F) (fr + 7) (lo + 171) := fun l D dA sz e0 mi kA vA fm h ad sa g r x hsa hw hoo => v_QreadOpened l D dA sz e0 mi kA vA fm h ad sa g r x o F fr lo hsa hw hoo hF hX hg ho
theorem FacC_of {o : Nat} {O : PF} {fr lo : Nat} (hO : OpnC (o + 1) O fr lo) (hg : gdO O) (ho : o < 8) : FacC o (pFc O) (fr + 10) (lo + 242) := fun l D dA sz e0 mi kA vA fm h ad sa g r x hsa hw => v_QreadFactor l D dA sz e0 mi kA vA fm h ad sa g r x o O fr lo hsa hw hO hg ho
theorem FacC_8 : FacC 8 (pFc pO3) 10 242 := fun l D dA sz e0 mi kA vA fm h ad sa g r x hsa hw => v_QreadFactor8 l D dA sz e0 mi kA vA fm h ad sa g r x 8 hsa hw rfl
theorem FacC_s {o : Nat} {F : PF} {fr lo : Nat} (hF : FacC (o + 1) F fr lo) (hg : gdF F) (ho : o < 8) : FacC o (pFc (pOp F)) (fr + 31) (lo + 755) := by
  have a1 := ExpC_of (TrmC_of hF hg (by omega)) (pTm_g hg) (by omega)
  have a2 := OpnC_of (FacC_up hF (fr2 := fr + 7 + 7) (lo2 := lo + 171 + 171) (by omega) (by omega)) a1 hg (by omega)
  exact FacC_of a2 (fun _ _ _ h hk => pOp_P hg h hk) ho
theorem FacC_d : ∀ d, d ≤ 8 → FacC (8 - d) (pFd d) (10 + 31 * d) (242 + 755 * d)
  | 0, _ => FacC_8
  | d + 1, h => by
    have ih := FacC_d d (by omega)
    rw [show 8 - d = 8 - (d + 1) + 1 by omega] at ih
    have e := FacC_s ih (pFd_g d) (by omega)
    rw [show 10 + 31 * d + 31 = 10 + 31 * (d + 1) by omega, show 242 + 755 * d + 755 = 242 + 755 * (d + 1) by omega] at e
    exact e
/-- a whole sum -/
def pQ : PF := pEx (pTm (pFd 8))
theorem pQ_g : gdF pQ := pEx_g (pTm_g (pFd_g 8))
theorem v_ExpC0 : ExpC 0 pQ 272 6624 := ExpC_of (TrmC_of (FacC_d 8 (Nat.le_refl 8)) (pFd_g 8) (by decide)) (pTm_g (pFd_g 8)) (by decide)
