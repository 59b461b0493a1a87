def tL_in : List mI := [(0, .new 7, 3, 11, 0), (3, .dup, 1, 0, 0), (4, .invokespecial 9, 3, 0, 0), (7, .astore_n 1, 1, 0, 0), (8, .new 10, 3, 12, 0), (11, .dup, 1, 0, 0), (12, .invokespecial 12, 3, 0, 0), (15, .astore_n 2, 1, 0, 0), (16, .iconst 0, 1, 0, 0), (17, .istore_n 3, 1, 0, 0), (18, .iload_n 3, 1, 0, 0), (19, .aload_n 0, 1, 0, 0), (20, .arraylength, 1, 0, 0), (21, .bipush 6, 2, 0, 0), (23, .isub, 1, 0, 0), (24, .if_icmp .gt 1334, 3, 0, 0), (27, .aload_n 0, 1, 0, 0), (28, .iload_n 3, 1, 0, 0), (29, .iaload, 1, 0, 0), (30, .bipush 63, 2, 0, 0), (32, .iand, 1, 0, 0), (33, .tableswitch 1319 0 41 #[183, 246, 269, 282, 305, 338, 361, 384, 407, 440, 473, 506, 519, 532, 545, 558, 591, 614, 637, 650, 673, 696, 719, 742, 785, 818, 841, 874, 887, 930, 953, 996, 1019, 1042, 1065, 1108, 1131, 1164, 1197, 1250, 1273, 1296], 183, 0, 0)]
set_option maxRecDepth 100000 in
theorem kL_in : mTok cL_law RL 4 false tL_in := mTok_of (by decide +kernel) ⟨⟨_, rfl, lnRL_7, ls_RX11, li_RX11⟩, trivial, (fun z => by cases z), trivial, ⟨_, rfl, lnRL_10, ls_RX12, li_RX12⟩, trivial, (fun z => by cases z), trivial, trivial, trivial, trivial, trivial, trivial, trivial, trivial, trivial, trivial, trivial, trivial, trivial, trivial, trivial, trivial⟩
def tL_out : List mI := [(1352, .iinc 3 6, 3, 0, 0), (1355, .goto (-1337), 3, 0, 0), (1358, .iconst 1, 1, 0, 0), (1359, .ireturn, 1, 0, 0)]
set_option maxRecDepth 100000 in
theorem kL_out : mTok cL_law RL 4 false tL_out := mTok_of (by decide +kernel) ⟨trivial, trivial, trivial, trivial, trivial⟩
/-- the two answers to feed are one -/
def zH_feed (Rel : Nat → Bool → mT → Prop) : Prop := ∀ (k : Nat) (b : Bool) (S : mT) (a1 a2 a3 a4 a5 : Int32), k ≤ 3066 → Rel k b S → ∃ r S1 S2, fX11_feed a1 a2 a3 a4 a5 S = some (r, S1) ∧ fX12_feed a1 a2 a3 a4 a5 S1 = some (r, S2) ∧ Rel (k + 6) b S2
/-- the two answers to end are one -/
def zH_end (Rel : Nat → Bool → mT → Prop) : Prop := ∀ (k : Nat) (b : Bool) (S : mT) (a1 : Int32), k ≤ 3066 → Rel k b S → ∃ r S1 S2, fX11_end a1 S = some (r, S1) ∧ fX12_end a1 S1 = some (r, S2) ∧ Rel (k + 6) b S2
def zH_province (Rel : Nat → Bool → mT → Prop) : Prop := ∀ (k : Nat) (b : Bool) (S : mT), k ≤ 3066 → Rel k b S → ∃ r b' S1 S2, fX11_province b S = some (r, S1, b') ∧ fX12_province S1 = some (r, S2) ∧ Rel (k + 6) b' S2
/-- the two answers to fault are one -/
def zH_fault (Rel : Nat → Bool → mT → Prop) : Prop := ∀ (k : Nat) (b : Bool) (S : mT) (a1 : Int32), k ≤ 3066 → Rel k b S → ∃ r S1 S2, fX11_fault a1 S = some (r, S1) ∧ fX12_fault a1 S1 = some (r, S2) ∧ Rel (k + 6) b S2
/-- the two answers to house are one -/
def zH_house (Rel : Nat → Bool → mT → Prop) : Prop := ∀ (k : Nat) (b : Bool) (S : mT) (a1 a2 : Int32), k ≤ 3066 → Rel k b S → ∃ r S1 S2, fX11_house b a1 a2 S = some (r, S1) ∧ fX12_house a1 a2 S1 = some (r, S2) ∧ Rel (k + 6) b S2
/-- the two answers to sum are one -/
def zH_sum (Rel : Nat → Bool → mT → Prop) : Prop := ∀ (k : Nat) (b : Bool) (S : mT) (a1 : Int32), k ≤ 3066 → Rel k b S → ∃ r S1 S2, fX11_sum b a1 S = some (r, S1) ∧ fX12_sum a1 S1 = some (r, S2) ∧ Rel (k + 6) b S2
/-- the two answers to comes are one -/
def zH_comes (Rel : Nat → Bool → mT → Prop) : Prop := ∀ (k : Nat) (b : Bool) (S : mT) (a1 : Int32), k ≤ 3066 → Rel k b S → ∃ r S1 S2, fX11_comes b a1 S = some (r, S1) ∧ fX12_comes a1 S1 = some (r, S2) ∧ Rel (k + 6) b S2
/-- the two answers to goes are one -/
def zH_goes (Rel : Nat → Bool → mT → Prop) : Prop := ∀ (k : Nat) (b : Bool) (S : mT) (a1 : Int32), k ≤ 3066 → Rel k b S → ∃ r S1 S2, fX11_goes b a1 S = some (r, S1) ∧ fX12_goes a1 S1 = some (r, S2) ∧ Rel (k + 6) b S2
/-- the two answers to moves are one -/
def zH_moves (Rel : Nat → Bool → mT → Prop) : Prop := ∀ (k : Nat) (b : Bool) (S : mT) (a1 a2 : Int32), k ≤ 3066 → Rel k b S → ∃ r S1 S2, fX11_moves b a1 a2 S = some (r, S1) ∧ fX12_moves a1 a2 S1 = some (r, S2) ∧ Rel (k + 6) b S2
/-- the two answers to hide are one -/
def zH_hide (Rel : Nat → Bool → mT → Prop) : Prop := ∀ (k : Nat) (b : Bool) (S : mT) (a1 a2 : Int32), k ≤ 3066 → Rel k b S → ∃ r S1 S2, fX11_hide b a1 a2 S = some (r, S1) ∧ fX12_hide a1 a2 S1 = some (r, S2) ∧ Rel (k + 6) b S2
/-- the two answers to steal are one -/
def zH_steal (Rel : Nat → Bool → mT → Prop) : Prop := ∀ (k : Nat) (b : Bool) (S : mT) (a1 a2 : Int32), k ≤ 3066 → Rel k b S → ∃ r S1 S2, fX11_steal b a1 a2 S = some (r, S1) ∧ fX12_steal a1 a2 S1 = some (r, S2) ∧ Rel (k + 6) b S2
/-- the two answers to summer are one -/
def zH_summer (Rel : Nat → Bool → mT → Prop) : Prop := ∀ (k : Nat) (b : Bool) (S : mT), k ≤ 3066 → Rel k b S → ∃ r S1 S2, fX11_summer b S = some (r, S1) ∧ fX12_summer S1 = some (r, S2) ∧ Rel (k + 6) b S2
/-- the two answers to undo are one -/
def zH_undo (Rel : Nat → Bool → mT → Prop) : Prop := ∀ (k : Nat) (b : Bool) (S : mT), k ≤ 3066 → Rel k b S → ∃ r S1 S2, fX11_undo S = some (r, S1) ∧ fX12_undo S1 = some (r, S2) ∧ Rel (k + 6) b S2
/-- the two answers to redo are one -/
def zH_redo (Rel : Nat → Bool → mT → Prop) : Prop := ∀ (k : Nat) (b : Bool) (S : mT), k ≤ 3066 → Rel k b S → ∃ r S1 S2, fX11_redo S = some (r, S1) ∧ fX12_redo S1 = some (r, S2) ∧ Rel (k + 6) b S2
/-- the two answers to falses are one -/
def zH_falses (Rel : Nat → Bool → mT → Prop) : Prop := ∀ (k : Nat) (b : Bool) (S : mT), k ≤ 3066 → Rel k b S → ∃ r S1 S2, fX11_falses b S = some (r, S1) ∧ fX12_falses S1 = some (r, S2) ∧ Rel (k + 6) b S2
/-- the two answers to will are one -/
def zH_will (Rel : Nat → Bool → mT → Prop) : Prop := ∀ (k : Nat) (b : Bool) (S : mT) (a1 a2 : Int32), k ≤ 3066 → Rel k b S → ∃ r S1 S2, fX11_will b a1 a2 S = some (r, S1) ∧ fX12_will a1 a2 S1 = some (r, S2) ∧ Rel (k + 6) b S2
/-- the two answers to bowls are one -/
def zH_bowls (Rel : Nat → Bool → mT → Prop) : Prop := ∀ (k : Nat) (b : Bool) (S : mT) (a1 : Int32), k ≤ 3066 → Rel k b S → ∃ r S1 S2, fX11_bowls b a1 S = some (r, S1) ∧ fX12_bowls a1 S1 = some (r, S2) ∧ Rel (k + 6) b S2
/-- the two answers to leave are one -/
def zH_leave (Rel : Nat → Bool → mT → Prop) : Prop := ∀ (k : Nat) (b : Bool) (S : mT) (a1 : Int32), k ≤ 3066 → Rel k b S → ∃ r S1 S2, fX11_leave b a1 S = some (r, S1) ∧ fX12_leave a1 S1 = some (r, S2) ∧ Rel (k + 6) b S2
/-- the two answers to least are one -/
def zH_least (Rel : Nat → Bool → mT → Prop) : Prop := ∀ (k : Nat) (b : Bool) (S : mT), k ≤ 3066 → Rel k b S → ∃ r S1 S2, fX11_least b S = some (r, S1) ∧ fX12_least S1 = some (r, S2) ∧ Rel (k + 6) b S2
/-- the two answers to rounds are one -/
def zH_rounds (Rel : Nat → Bool → mT → Prop) : Prop := ∀ (k : Nat) (b : Bool) (S : mT) (a1 : Int32), k ≤ 3066 → Rel k b S → ∃ r S1 S2, fX11_rounds b a1 S = some (r, S1) ∧ fX12_rounds a1 S1 = some (r, S2) ∧ Rel (k + 6) b S2
/-- the two answers to noon are one -/
def zH_noon (Rel : Nat → Bool → mT → Prop) : Prop := ∀ (k : Nat) (b : Bool) (S : mT) (a1 : Int32), k ≤ 3066 → Rel k b S → ∃ r S1 S2, fX11_noon b a1 S = some (r, S1) ∧ fX12_noon a1 S1 = some (r, S2) ∧ Rel (k + 6) b S2
/-- the two answers to missed are one -/
def zH_missed (Rel : Nat → Bool → mT → Prop) : Prop := ∀ (k : Nat) (b : Bool) (S : mT) (a1 : Int32), k ≤ 3066 → Rel k b S → ∃ r S1 S2, fX11_missed b a1 S = some (r, S1) ∧ fX12_missed a1 S1 = some (r, S2) ∧ Rel (k + 6) b S2
/-- the two answers to doubled are one -/
def zH_doubled (Rel : Nat → Bool → mT → Prop) : Prop := ∀ (k : Nat) (b : Bool) (S : mT) (a1 : Int32), k ≤ 3066 → Rel k b S → ∃ r S1 S2, fX11_doubled b a1 S = some (r, S1) ∧ fX12_doubled a1 S1 = some (r, S2) ∧ Rel (k + 6) b S2
/-- the two answers to seats are one -/
def zH_seats (Rel : Nat → Bool → mT → Prop) : Prop := ∀ (k : Nat) (b : Bool) (S : mT) (a1 a2 a3 : Int32), k ≤ 3066 → Rel k b S → ∃ r S1 S2, fX11_seats b a1 a2 a3 S = some (r, S1) ∧ fX12_seats a1 a2 a3 S1 = some (r, S2) ∧ Rel (k + 6) b S2
/-- the two answers to stone are one -/
def zH_stone (Rel : Nat → Bool → mT → Prop) : Prop := ∀ (k : Nat) (b : Bool) (S : mT) (a1 a2 : Int32), k ≤ 3066 → Rel k b S → ∃ r S1 S2, fX11_stone b a1 a2 S = some (r, S1) ∧ fX12_stone a1 a2 S1 = some (r, S2) ∧ Rel (k + 6) b S2
/-- the two answers to loss are one -/
def zH_loss (Rel : Nat → Bool → mT → Prop) : Prop := ∀ (k : Nat) (b : Bool) (S : mT) (a1 : Int32), k ≤ 3066 → Rel k b S → ∃ r S1 S2, fX11_loss b a1 S = some (r, S1) ∧ fX12_loss a1 S1 = some (r, S2) ∧ Rel (k + 6) b S2
/-- the two answers to draft are one -/
def zH_draft (Rel : Nat → Bool → mT → Prop) : Prop := ∀ (k : Nat) (b : Bool) (S : mT) (a1 a2 : Int32), k ≤ 3066 → Rel k b S → ∃ r S1 S2, fX11_draft b a1 a2 S = some (r, S1) ∧ fX12_draft a1 a2 S1 = some (r, S2) ∧ Rel (k + 6) b S2
/-- the two answers to chase are one -/
def zH_chase (Rel : Nat → Bool → mT → Prop) : Prop := ∀ (k : Nat) (b : Bool) (S : mT), k ≤ 3066 → Rel k b S → ∃ r S1 S2, fX11_chase b S = some (r, S1) ∧ fX12_chase S1 = some (r, S2) ∧ Rel (k + 6) b S2
/-- the two answers to marks are one -/
def zH_marks (Rel : Nat → Bool → mT → Prop) : Prop := ∀ (k : Nat) (b : Bool) (S : mT) (a1 a2 a3 : Int32), k ≤ 3066 → Rel k b S → ∃ r S1 S2, fX11_marks a1 a2 a3 S = some (r, S1) ∧ fX12_marks a1 a2 a3 S1 = some (r, S2) ∧ Rel (k + 6) b S2
/-- the two answers to lies are one -/
def zH_lies (Rel : Nat → Bool → mT → Prop) : Prop := ∀ (k : Nat) (b : Bool) (S : mT) (a1 : Int32), k ≤ 3066 → Rel k b S → ∃ r S1 S2, fX11_lies a1 S = some (r, S1) ∧ fX12_lies a1 S1 = some (r, S2) ∧ Rel (k + 6) b S2
/-- the two answers to report are one -/
def zH_report (Rel : Nat → Bool → mT → Prop) : Prop := ∀ (k : Nat) (b : Bool) (S : mT) (a1 a2 a3 : Int32), k ≤ 3066 → Rel k b S → ∃ r S1 S2, fX11_report b a1 a2 a3 S = some (r, S1) ∧ fX12_report a1 a2 a3 S1 = some (r, S2) ∧ Rel (k + 6) b S2
/-- the two answers to untell are one -/
def zH_untell (Rel : Nat → Bool → mT → Prop) : Prop := ∀ (k : Nat) (b : Bool) (S : mT) (a1 : Int32), k ≤ 3066 → Rel k b S → ∃ r S1 S2, fX11_untell a1 S = some (r, S1) ∧ fX12_untell a1 S1 = some (r, S2) ∧ Rel (k + 6) b S2
/-- the two answers to later are one -/
def zH_later (Rel : Nat → Bool → mT → Prop) : Prop := ∀ (k : Nat) (b : Bool) (S : mT) (a1 : Int32), k ≤ 3066 → Rel k b S → ∃ r S1 S2, fX11_later a1 S = some (r, S1) ∧ fX12_later a1 S1 = some (r, S2) ∧ Rel (k + 6) b S2
/-- the two answers to truths are one -/
def zH_truths (Rel : Nat → Bool → mT → Prop) : Prop := ∀ (k : Nat) (b : Bool) (S : mT) (a1 : Int32), k ≤ 3066 → Rel k b S → ∃ r S1 S2, fX11_truths b a1 S = some (r, S1) ∧ fX12_truths a1 S1 = some (r, S2) ∧ Rel (k + 6) b S2
/-- the two answers to range are one -/
def zH_range (Rel : Nat → Bool → mT → Prop) : Prop := ∀ (k : Nat) (b : Bool) (S : mT) (a1 a2 a3 : Int32), k ≤ 3066 → Rel k b S → ∃ r S1 S2, fX11_range b a1 a2 a3 S = some (r, S1) ∧ fX12_range a1 a2 a3 S1 = some (r, S2) ∧ Rel (k + 6) b S2
/-- the two answers to liars are one -/
def zH_liars (Rel : Nat → Bool → mT → Prop) : Prop := ∀ (k : Nat) (b : Bool) (S : mT) (a1 : Int32), k ≤ 3066 → Rel k b S → ∃ r S1 S2, fX11_liars b a1 S = some (r, S1) ∧ fX12_liars a1 S1 = some (r, S2) ∧ Rel (k + 6) b S2
/-- the two answers to knock are one -/
def zH_knock (Rel : Nat → Bool → mT → Prop) : Prop := ∀ (k : Nat) (b : Bool) (S : mT) (a1 a2 : Int32), k ≤ 3066 → Rel k b S → ∃ r S1 S2, fX11_knock b a1 a2 S = some (r, S1) ∧ fX12_knock a1 a2 S1 = some (r, S2) ∧ Rel (k + 6) b S2
/-- the two answers to tells are one -/
def zH_tells (Rel : Nat → Bool → mT → Prop) : Prop := ∀ (k : Nat) (b : Bool) (S : mT) (a1 a2 : Int32), k ≤ 3066 → Rel k b S → ∃ r S1 S2, fX11_tells b a1 a2 S = some (r, S1) ∧ fX12_tells a1 a2 S1 = some (r, S2) ∧ Rel (k + 6) b S2
/-- the two answers to odds are one -/
def zH_odds (Rel : Nat → Bool → mT → Prop) : Prop := ∀ (k : Nat) (b : Bool) (S : mT) (a1 a2 a3 a4 : Int32), k ≤ 3066 → Rel k b S → ∃ r S1 S2, fX11_odds b a1 a2 a3 a4 S = some (r, S1) ∧ fX12_odds a1 a2 a3 a4 S1 = some (r, S2) ∧ Rel (k + 6) b S2
/-- the two answers to image are one -/
def zH_image (Rel : Nat → Bool → mT → Prop) : Prop := ∀ (k : Nat) (b : Bool) (S : mT) (a1 : Int32), k ≤ 3066 → Rel k b S → ∃ r S1 S2, fX11_image a1 S = some (r, S1) ∧ fX12_image a1 S1 = some (r, S2) ∧ Rel (k + 6) b S2
/-- the two answers to back are one -/
def zH_back (Rel : Nat → Bool → mT → Prop) : Prop := ∀ (k : Nat) (b : Bool) (S : mT) (a1 : Int32), k ≤ 3066 → Rel k b S → ∃ r S1 S2, fX11_back a1 S = some (r, S1) ∧ fX12_back a1 S1 = some (r, S2) ∧ Rel (k + 6) b S2
/-- the two answers to about are one -/
def zH_about (Rel : Nat → Bool → mT → Prop) : Prop := ∀ (k : Nat) (b : Bool) (S : mT) (a1 : Int32), k ≤ 3066 → Rel k b S → ∃ r S1 S2, fX11_about b a1 S = some (r, S1) ∧ fX12_about a1 S1 = some (r, S2) ∧ Rel (k + 6) b S2
def zH (Rel : Nat → Bool → mT → Prop) : Prop := zH_feed Rel ∧ zH_end Rel ∧ zH_province Rel ∧ zH_fault Rel ∧ zH_house Rel ∧ zH_sum Rel ∧ zH_comes Rel ∧ zH_goes Rel ∧ zH_moves Rel ∧ zH_hide Rel ∧ zH_steal Rel ∧ zH_summer Rel ∧ zH_undo Rel ∧ zH_redo Rel ∧ zH_falses Rel ∧ zH_will Rel ∧ zH_bowls Rel ∧ zH_leave Rel ∧ zH_least Rel ∧ zH_rounds Rel ∧ zH_noon Rel ∧ zH_missed Rel ∧ zH_doubled Rel ∧ zH_seats Rel ∧ zH_stone Rel ∧ zH_loss Rel ∧ zH_draft Rel ∧ zH_chase Rel ∧ zH_marks Rel ∧ zH_lies Rel ∧ zH_report Rel ∧ zH_untell Rel ∧ zH_later Rel ∧ zH_truths Rel ∧ zH_range Rel ∧ zH_liars Rel ∧ zH_knock Rel ∧ zH_tells Rel ∧ zH_odds Rel ∧ zH_image Rel ∧ zH_back Rel ∧ zH_about Rel
theorem zIn {k j Ln : Nat} (h : k + 6 ≤ Ln) (hL : Ln ≤ 3072) (hj : j < 6) : vp_in (Int32.ofNat k + Int32.ofNat j) Ln := by
  rw [← Int32.ofNat_add]
  exact nI_in (c := k + j) (by omega) (by omega)
theorem zGt {k Ln : Nat} (hL : Ln ≤ 3072) (hk : k ≤ Ln + 6) : (Int32.ofNat Ln - 6 < Int32.ofNat k) ↔ ¬ k + 6 ≤ Ln := by
  have e1 : (Int32.ofNat k).toInt = (k : Int) := nI_toInt (n := k) (by omega)
  have e2 : (Int32.ofNat Ln - 6).toInt = (Ln : Int) - 6 := by
    rw [Int32.toInt_sub, show (Int32.ofNat Ln).toInt = (Ln : Int) from nI_toInt (n := Ln) (by omega), show (6 : Int32).toInt = 6 from by decide]
    rw [Int.bmod_def]
    omega
  rw [Int32.lt_iff_toInt_lt, e1, e2]
  omega
theorem mheq {p : Program} {l : Launch} {e : Env} {R : Room} {s : State} {m : MethodId} {args : Array Value} {below : List Frame} {meth : Method} {c : Code} {G : mG} {nL n0 w0 : Nat} {Q : State → Prop} {ok ok' : Bool} {pc : Nat} {L st : List Value} {h h' : mHp} (hn : hN h = hN h') (hw : hW h = hW h') (he : ∀ i, i < hN h → mEl G h i = mEl G h' i) (k : mW p l e R s m args below meth c G nL n0 w0 Q (ok', pc, L, st, h')) : mW p l e R s m args below meth c G nL n0 w0 Q (ok, pc, L, st, h) := by
  intro H locs ls hwd hQ hl h0 h1
  have e1 : mWs G h = mWs G h' := by
    unfold mWs
    rw [← hn]
    apply List.map_congr_left
    intro i hi
    rw [he i (List.mem_range.mp hi)]
  have hwd' : mWd G h H := hwd
  have hwd2 : mWd G h' H := ⟨by rw [← e1]; exact hwd'.1, by rw [← hn]; exact hwd'.2⟩
  have h0' : n0 ≤ hN h := h0
  have h1' : w0 ≤ hW h := h1
  have k1 := k H locs ls hwd2 hQ hl (by show n0 ≤ hN h'; omega) (by show w0 ≤ hW h'; omega)
  have k2 : W p l e R s m args below meth c H locs (hN h' - n0) (hW h' - w0) Q (F0 m pc ls (st.map (mCv G))) := k1
  rw [← hn, ← hw] at k2
  exact k2
section ZL
variable {p : Program} {l : Launch} {e : Env} {s : State} {m : MethodId} {below : List Frame} {meth : Method} {c : Code} {G : mG} {b0 Ln : Nat} {xs : Nat → Int32}
theorem z_done (C : zC p s m meth c G b0) (hr : meth.sig.returnType = ret) (hk : meth.locks = false) {b : Bool} {S : mT} {L : List Value} {ok : Bool} : zW p l e s m below meth c G b0 (lw_Z below #[Value.ref b0] s) (ok, 1359, L, [.int 1], mk b S) := by
  intro H locs ls hw hQ hl h0 h1
  refine va_forget (fun q hq => ?_) ?_
  · have h2 : G.1 ≤ q.base := hQ.2.2 q hq
    have h3 : s.heap.size = G.1 + 0 := C.2.2.2.2.2.2.1
    omega
  refine W.widen (k := 600000) (n := 7302250) (Nat.le_of_ble_eq_true rfl) (Nat.le_of_ble_eq_true rfl) ?_
  exact lw_ret C.1 C.2.1 hr hk (kL_out _ (List.mem_of_getElem? (i := 3) rfl)).1
set_option maxHeartbeats 8000000 in
set_option maxRecDepth 100000 in
theorem z_loop (Rel : Nat → Bool → mT → Prop) (O : zH Rel) (mono : ∀ k b S, Rel k b S → Rel (k + 6) b S) (C : zC p s m meth c G b0) (E : zEn s G b0 Ln xs) (hL : Ln ≤ 3072) (hr : meth.sig.returnType = ret) (hk : meth.locks = false) : ∀ (n k : Nat) (b : Bool) (S : mT) (ok : Bool), Rel k b S → k ≤ Ln + 6 → Ln + 1 ≤ k + n → zW p l e s m below meth c G b0 (lw_Z below #[Value.ref b0] s) (ok, 18, [.ref 900300, .ref 0, .ref 187, .int (Int32.ofNat k)], [], mk b S) := by
  intro n
  induction n with
  | zero =>
    intro k b S ok hR hk1 hk2
    refine msegT C kL_in 10 2 (g := (true, 20, [.ref 900300, .ref 0, .ref 187, .int (Int32.ofNat k)], [.ref 900300, .int (Int32.ofNat k)], mk b S)) rfl rfl ?_
    refine so_scl (ok' := true) C E (kL_in _ (List.mem_of_getElem? (i := 12) rfl)).1 ?_
    refine msegT C kL_in 13 3 (g := (true, (if Int32.ofNat Ln - (6 : Int32) < Int32.ofNat k then 1358 else 27), [.ref 900300, .ref 0, .ref 187, .int (Int32.ofNat k)], [], mk b S)) rfl rfl ?_
    have hc : ¬ k + 6 ≤ Ln := by omega
    rw [if_pos ((zGt hL hk1).mpr hc)]
    refine msegT C kL_out 2 1 (g := (true, 1359, [.ref 900300, .ref 0, .ref 187, .int (Int32.ofNat k)], [.int 1], mk b S)) rfl rfl ?_
    exact z_done C hr hk
  | succ n ih =>
    intro k b S ok hR hk1 hk2
    refine msegT C kL_in 10 2 (g := (true, 20, [.ref 900300, .ref 0, .ref 187, .int (Int32.ofNat k)], [.ref 900300, .int (Int32.ofNat k)], mk b S)) rfl rfl ?_
    refine so_scl (ok' := true) C E (kL_in _ (List.mem_of_getElem? (i := 12) rfl)).1 ?_
    refine msegT C kL_in 13 3 (g := (true, (if Int32.ofNat Ln - (6 : Int32) < Int32.ofNat k then 1358 else 27), [.ref 900300, .ref 0, .ref 187, .int (Int32.ofNat k)], [], mk b S)) rfl rfl ?_
    rcases Nat.lt_or_ge Ln (k + 6) with hc | hc
    · have hc : ¬ k + 6 ≤ Ln := by omega
      rw [if_pos ((zGt hL hk1).mpr hc)]
      refine msegT C kL_out 2 1 (g := (true, 1359, [.ref 900300, .ref 0, .ref 187, .int (Int32.ofNat k)], [.int 1], mk b S)) rfl rfl ?_
      exact z_done C hr hk
    rw [if_neg (fun q => (zGt hL hk1).mp q hc)]
    have hin0 : vp_in (Int32.ofNat k) Ln := nI_in (c := k) (by omega) (by omega)
    have hin1 : vp_in (Int32.ofNat k + (1 : Int32)) Ln := zIn hc hL (j := 1) (by omega)
    have hin2 : vp_in (Int32.ofNat k + (2 : Int32)) Ln := zIn hc hL (j := 2) (by omega)
    have hin3 : vp_in (Int32.ofNat k + (3 : Int32)) Ln := zIn hc hL (j := 3) (by omega)
    have hin4 : vp_in (Int32.ofNat k + (4 : Int32)) Ln := zIn hc hL (j := 4) (by omega)
    have hin5 : vp_in (Int32.ofNat k + (5 : Int32)) Ln := zIn hc hL (j := 5) (by omega)
    have next : ∀ (b : Bool) (S : mT), Rel (k + 6) b S → zW p l e s m below meth c G b0 (lw_Z below #[Value.ref b0] s) (true, 1352, [.ref 900300, .ref 0, .ref 187, .int (Int32.ofNat k)], [], mk b S) := by
      intro b S hR
      refine msegT C kL_out 0 2 (g := (true, 18, [.ref 900300, .ref 0, .ref 187, .int (Int32.ofNat k + (6 : Int32))], [], mk b S)) rfl rfl ?_
      have e6 : Int32.ofNat k + (6 : Int32) = Int32.ofNat (k + 6) := (Int32.ofNat_add k 6).symm
      rw [e6]
      exact ih (k + 6) b S true hR (by omega) (by omega)
    refine msegT C kL_in 16 2 (g := (true, 29, [.ref 900300, .ref 0, .ref 187, .int (Int32.ofNat k)], [.int (Int32.ofNat k), .ref 900300], mk b S)) rfl rfl ?_
    refine so_scr (ok' := true) C E hin0 (kL_in _ (List.mem_of_getElem? (i := 18) rfl)).1 ?_
    obtain ⟨o0, o1, o2, o3, o4, o5, o6, o7, o8, o9, o10, o11, o12, o13, o14, o15, o16, o17, o18, o19, o20, o21, o22, o23, o24, o25, o26, o27, o28, o29, o30, o31, o32, o33, o34, o35, o36, o37, o38, o39, o40, o41⟩ := O
    refine msegT C kL_in 19 3 (g := (true, (if (zX xs (Int32.ofNat k) &&& (63 : Int32)) = (0 : Int32) then 216 else (if (zX xs (Int32.ofNat k) &&& (63 : Int32)) = (1 : Int32) then 279 else (if (zX xs (Int32.ofNat k) &&& (63 : Int32)) = (2 : Int32) then 302 else (if (zX xs (Int32.ofNat k) &&& (63 : Int32)) = (3 : Int32) then 315 else (if (zX xs (Int32.ofNat k) &&& (63 : Int32)) = (4 : Int32) then 338 else (if (zX xs (Int32.ofNat k) &&& (63 : Int32)) = (5 : Int32) then 371 else (if (zX xs (Int32.ofNat k) &&& (63 : Int32)) = (6 : Int32) then 394 else (if (zX xs (Int32.ofNat k) &&& (63 : Int32)) = (7 : Int32) then 417 else (if (zX xs (Int32.ofNat k) &&& (63 : Int32)) = (8 : Int32) then 440 else (if (zX xs (Int32.ofNat k) &&& (63 : Int32)) = (9 : Int32) then 473 else (if (zX xs (Int32.ofNat k) &&& (63 : Int32)) = (10 : Int32) then 506 else (if (zX xs (Int32.ofNat k) &&& (63 : Int32)) = (11 : Int32) then 539 else (if (zX xs (Int32.ofNat k) &&& (63 : Int32)) = (12 : Int32) then 552 else (if (zX xs (Int32.ofNat k) &&& (63 : Int32)) = (13 : Int32) then 565 else (if (zX xs (Int32.ofNat k) &&& (63 : Int32)) = (14 : Int32) then 578 else (if (zX xs (Int32.ofNat k) &&& (63 : Int32)) = (15 : Int32) then 591 else (if (zX xs (Int32.ofNat k) &&& (63 : Int32)) = (16 : Int32) then 624 else (if (zX xs (Int32.ofNat k) &&& (63 : Int32)) = (17 : Int32) then 647 else (if (zX xs (Int32.ofNat k) &&& (63 : Int32)) = (18 : Int32) then 670 else (if (zX xs (Int32.ofNat k) &&& (63 : Int32)) = (19 : Int32) then 683 else (if (zX xs (Int32.ofNat k) &&& (63 : Int32)) = (20 : Int32) then 706 else (if (zX xs (Int32.ofNat k) &&& (63 : Int32)) = (21 : Int32) then 729 else (if (zX xs (Int32.ofNat k) &&& (63 : Int32)) = (22 : Int32) then 752 else (if (zX xs (Int32.ofNat k) &&& (63 : Int32)) = (23 : Int32) then 775 else (if (zX xs (Int32.ofNat k) &&& (63 : Int32)) = (24 : Int32) then 818 else (if (zX xs (Int32.ofNat k) &&& (63 : Int32)) = (25 : Int32) then 851 else (if (zX xs (Int32.ofNat k) &&& (63 : Int32)) = (26 : Int32) then 874 else (if (zX xs (Int32.ofNat k) &&& (63 : Int32)) = (27 : Int32) then 907 else (if (zX xs (Int32.ofNat k) &&& (63 : Int32)) = (28 : Int32) then 920 else (if (zX xs (Int32.ofNat k) &&& (63 : Int32)) = (29 : Int32) then 963 else (if (zX xs (Int32.ofNat k) &&& (63 : Int32)) = (30 : Int32) then 986 else (if (zX xs (Int32.ofNat k) &&& (63 : Int32)) = (31 : Int32) then 1029 else (if (zX xs (Int32.ofNat k) &&& (63 : Int32)) = (32 : Int32) then 1052 else (if (zX xs (Int32.ofNat k) &&& (63 : Int32)) = (33 : Int32) then 1075 else (if (zX xs (Int32.ofNat k) &&& (63 : Int32)) = (34 : Int32) then 1098 else (if (zX xs (Int32.ofNat k) &&& (63 : Int32)) = (35 : Int32) then 1141 else (if (zX xs (Int32.ofNat k) &&& (63 : Int32)) = (36 : Int32) then 1164 else (if (zX xs (Int32.ofNat k) &&& (63 : Int32)) = (37 : Int32) then 1197 else (if (zX xs (Int32.ofNat k) &&& (63 : Int32)) = (38 : Int32) then 1230 else (if (zX xs (Int32.ofNat k) &&& (63 : Int32)) = (39 : Int32) then 1283 else (if (zX xs (Int32.ofNat k) &&& (63 : Int32)) = (40 : Int32) then 1306 else (if (zX xs (Int32.ofNat k) &&& (63 : Int32)) = (41 : Int32) then 1329 else 1352)))))))))))))))))))))))))))))))))))))))))), [.ref 900300, .ref 0, .ref 187, .int (Int32.ofNat k)], [], mk b S)) rfl rfl ?_
    generalize hx : zX xs (Int32.ofNat k) &&& (63 : Int32) = x
    by_cases c0 : x = (0 : Int32)
    · rw [if_pos c0]
      obtain ⟨r, S1, S2, q1, q2, q3⟩ := o0 k b S (zX xs (Int32.ofNat k + (1 : Int32))) (zX xs (Int32.ofNat k + (2 : Int32))) (zX xs (Int32.ofNat k + (3 : Int32))) (zX xs (Int32.ofNat k + (4 : Int32))) (zX xs (Int32.ofNat k + (5 : Int32))) (by omega) hR
      exact zc_feed C E hin1 hin2 hin3 hin4 hin5 q1 q2 (next b S2 q3)
    rw [if_neg c0]
    by_cases c1 : x = (1 : Int32)
    · rw [if_pos c1]
      obtain ⟨r, S1, S2, q1, q2, q3⟩ := o1 k b S (zX xs (Int32.ofNat k + (1 : Int32))) (by omega) hR
      exact zc_end C E hin1 q1 q2 (next b S2 q3)
    rw [if_neg c1]
    by_cases c2 : x = (2 : Int32)
    · rw [if_pos c2]
      obtain ⟨r, b', S1, S2, q1, q2, q3⟩ := o2 k b S (by omega) hR
      exact zc_province C E q1 q2 (next b' S2 q3)
    rw [if_neg c2]
    by_cases c3 : x = (3 : Int32)
    · rw [if_pos c3]
      obtain ⟨r, S1, S2, q1, q2, q3⟩ := o3 k b S (zX xs (Int32.ofNat k + (1 : Int32))) (by omega) hR
      exact zc_fault C E hin1 q1 q2 (next b S2 q3)
    rw [if_neg c3]
    by_cases c4 : x = (4 : Int32)
    · rw [if_pos c4]
      obtain ⟨r, S1, S2, q1, q2, q3⟩ := o4 k b S (zX xs (Int32.ofNat k + (1 : Int32))) (zX xs (Int32.ofNat k + (2 : Int32))) (by omega) hR
      exact zc_house C E hin1 hin2 q1 q2 (next b S2 q3)
    rw [if_neg c4]
    by_cases c5 : x = (5 : Int32)
    · rw [if_pos c5]
      obtain ⟨r, S1, S2, q1, q2, q3⟩ := o5 k b S (zX xs (Int32.ofNat k + (1 : Int32))) (by omega) hR
      exact zc_sum C E hin1 q1 q2 (next b S2 q3)
    rw [if_neg c5]
    by_cases c6 : x = (6 : Int32)
    · rw [if_pos c6]
      obtain ⟨r, S1, S2, q1, q2, q3⟩ := o6 k b S (zX xs (Int32.ofNat k + (1 : Int32))) (by omega) hR
      exact zc_comes C E hin1 q1 q2 (next b S2 q3)
    rw [if_neg c6]
    by_cases c7 : x = (7 : Int32)
    · rw [if_pos c7]
      obtain ⟨r, S1, S2, q1, q2, q3⟩ := o7 k b S (zX xs (Int32.ofNat k + (1 : Int32))) (by omega) hR
      exact zc_goes C E hin1 q1 q2 (next b S2 q3)
    rw [if_neg c7]
    by_cases c8 : x = (8 : Int32)
    · rw [if_pos c8]
      obtain ⟨r, S1, S2, q1, q2, q3⟩ := o8 k b S (zX xs (Int32.ofNat k + (1 : Int32))) (zX xs (Int32.ofNat k + (2 : Int32))) (by omega) hR
      exact zc_moves C E hin1 hin2 q1 q2 (next b S2 q3)
    rw [if_neg c8]
    by_cases c9 : x = (9 : Int32)
    · rw [if_pos c9]
      obtain ⟨r, S1, S2, q1, q2, q3⟩ := o9 k b S (zX xs (Int32.ofNat k + (1 : Int32))) (zX xs (Int32.ofNat k + (2 : Int32))) (by omega) hR
      exact zc_hide C E hin1 hin2 q1 q2 (next b S2 q3)
    rw [if_neg c9]
    by_cases c10 : x = (10 : Int32)
    · rw [if_pos c10]
      obtain ⟨r, S1, S2, q1, q2, q3⟩ := o10 k b S (zX xs (Int32.ofNat k + (1 : Int32))) (zX xs (Int32.ofNat k + (2 : Int32))) (by omega) hR
      exact zc_steal C E hin1 hin2 q1 q2 (next b S2 q3)
    rw [if_neg c10]
    by_cases c11 : x = (11 : Int32)
    · rw [if_pos c11]
      obtain ⟨r, S1, S2, q1, q2, q3⟩ := o11 k b S (by omega) hR
      exact zc_summer C E q1 q2 (next b S2 q3)
    rw [if_neg c11]
    by_cases c12 : x = (12 : Int32)
    · rw [if_pos c12]
      obtain ⟨r, S1, S2, q1, q2, q3⟩ := o12 k b S (by omega) hR
      exact zc_undo C E q1 q2 (next b S2 q3)
    rw [if_neg c12]
    by_cases c13 : x = (13 : Int32)
    · rw [if_pos c13]
      obtain ⟨r, S1, S2, q1, q2, q3⟩ := o13 k b S (by omega) hR
      exact zc_redo C E q1 q2 (next b S2 q3)
    rw [if_neg c13]
    by_cases c14 : x = (14 : Int32)
    · rw [if_pos c14]
      obtain ⟨r, S1, S2, q1, q2, q3⟩ := o14 k b S (by omega) hR
      exact zc_falses C E q1 q2 (next b S2 q3)
    rw [if_neg c14]
    by_cases c15 : x = (15 : Int32)
    · rw [if_pos c15]
      obtain ⟨r, S1, S2, q1, q2, q3⟩ := o15 k b S (zX xs (Int32.ofNat k + (1 : Int32))) (zX xs (Int32.ofNat k + (2 : Int32))) (by omega) hR
      exact zc_will C E hin1 hin2 q1 q2 (next b S2 q3)
    rw [if_neg c15]
    by_cases c16 : x = (16 : Int32)
    · rw [if_pos c16]
      obtain ⟨r, S1, S2, q1, q2, q3⟩ := o16 k b S (zX xs (Int32.ofNat k + (1 : Int32))) (by omega) hR
      exact zc_bowls C E hin1 q1 q2 (next b S2 q3)
    rw [if_neg c16]
    by_cases c17 : x = (17 : Int32)
    · rw [if_pos c17]
      obtain ⟨r, S1, S2, q1, q2, q3⟩ := o17 k b S (zX xs (Int32.ofNat k + (1 : Int32))) (by omega) hR
      exact zc_leave C E hin1 q1 q2 (next b S2 q3)
    rw [if_neg c17]
    by_cases c18 : x = (18 : Int32)
    · rw [if_pos c18]
      obtain ⟨r, S1, S2, q1, q2, q3⟩ := o18 k b S (by omega) hR
      exact zc_least C E q1 q2 (next b S2 q3)
    rw [if_neg c18]
    by_cases c19 : x = (19 : Int32)
    · rw [if_pos c19]
      obtain ⟨r, S1, S2, q1, q2, q3⟩ := o19 k b S (zX xs (Int32.ofNat k + (1 : Int32))) (by omega) hR
      exact zc_rounds C E hin1 q1 q2 (next b S2 q3)
    rw [if_neg c19]
    by_cases c20 : x = (20 : Int32)
    · rw [if_pos c20]
      obtain ⟨r, S1, S2, q1, q2, q3⟩ := o20 k b S (zX xs (Int32.ofNat k + (1 : Int32))) (by omega) hR
      exact zc_noon C E hin1 q1 q2 (next b S2 q3)
    rw [if_neg c20]
    by_cases c21 : x = (21 : Int32)
    · rw [if_pos c21]
      obtain ⟨r, S1, S2, q1, q2, q3⟩ := o21 k b S (zX xs (Int32.ofNat k + (1 : Int32))) (by omega) hR
      exact zc_missed C E hin1 q1 q2 (next b S2 q3)
    rw [if_neg c21]
    by_cases c22 : x = (22 : Int32)
    · rw [if_pos c22]
      obtain ⟨r, S1, S2, q1, q2, q3⟩ := o22 k b S (zX xs (Int32.ofNat k + (1 : Int32))) (by omega) hR
      exact zc_doubled C E hin1 q1 q2 (next b S2 q3)
    rw [if_neg c22]
    by_cases c23 : x = (23 : Int32)
    · rw [if_pos c23]
      obtain ⟨r, S1, S2, q1, q2, q3⟩ := o23 k b S (zX xs (Int32.ofNat k + (1 : Int32))) (zX xs (Int32.ofNat k + (2 : Int32))) (zX xs (Int32.ofNat k + (3 : Int32))) (by omega) hR
      exact zc_seats C E hin1 hin2 hin3 q1 q2 (next b S2 q3)
    rw [if_neg c23]
    by_cases c24 : x = (24 : Int32)
    · rw [if_pos c24]
      obtain ⟨r, S1, S2, q1, q2, q3⟩ := o24 k b S (zX xs (Int32.ofNat k + (1 : Int32))) (zX xs (Int32.ofNat k + (2 : Int32))) (by omega) hR
      exact zc_stone C E hin1 hin2 q1 q2 (next b S2 q3)
    rw [if_neg c24]
    by_cases c25 : x = (25 : Int32)
    · rw [if_pos c25]
      obtain ⟨r, S1, S2, q1, q2, q3⟩ := o25 k b S (zX xs (Int32.ofNat k + (1 : Int32))) (by omega) hR
      exact zc_loss C E hin1 q1 q2 (next b S2 q3)
    rw [if_neg c25]
    by_cases c26 : x = (26 : Int32)
    · rw [if_pos c26]
      obtain ⟨r, S1, S2, q1, q2, q3⟩ := o26 k b S (zX xs (Int32.ofNat k + (1 : Int32))) (zX xs (Int32.ofNat k + (2 : Int32))) (by omega) hR
      exact zc_draft C E hin1 hin2 q1 q2 (next b S2 q3)
    rw [if_neg c26]
    by_cases c27 : x = (27 : Int32)
    · rw [if_pos c27]
      obtain ⟨r, S1, S2, q1, q2, q3⟩ := o27 k b S (by omega) hR
      exact zc_chase C E q1 q2 (next b S2 q3)
    rw [if_neg c27]
    by_cases c28 : x = (28 : Int32)
    · rw [if_pos c28]
      obtain ⟨r, S1, S2, q1, q2, q3⟩ := o28 k b S (zX xs (Int32.ofNat k + (1 : Int32))) (zX xs (Int32.ofNat k + (2 : Int32))) (zX xs (Int32.ofNat k + (3 : Int32))) (by omega) hR
      exact zc_marks C E hin1 hin2 hin3 q1 q2 (next b S2 q3)
    rw [if_neg c28]
    by_cases c29 : x = (29 : Int32)
    · rw [if_pos c29]
      obtain ⟨r, S1, S2, q1, q2, q3⟩ := o29 k b S (zX xs (Int32.ofNat k + (1 : Int32))) (by omega) hR
      exact zc_lies C E hin1 q1 q2 (next b S2 q3)
    rw [if_neg c29]
    by_cases c30 : x = (30 : Int32)
    · rw [if_pos c30]
      obtain ⟨r, S1, S2, q1, q2, q3⟩ := o30 k b S (zX xs (Int32.ofNat k + (1 : Int32))) (zX xs (Int32.ofNat k + (2 : Int32))) (zX xs (Int32.ofNat k + (3 : Int32))) (by omega) hR
      exact zc_report C E hin1 hin2 hin3 q1 q2 (next b S2 q3)
    rw [if_neg c30]
    by_cases c31 : x = (31 : Int32)
    · rw [if_pos c31]
      obtain ⟨r, S1, S2, q1, q2, q3⟩ := o31 k b S (zX xs (Int32.ofNat k + (1 : Int32))) (by omega) hR
      exact zc_untell C E hin1 q1 q2 (next b S2 q3)
    rw [if_neg c31]
    by_cases c32 : x = (32 : Int32)
    · rw [if_pos c32]
      obtain ⟨r, S1, S2, q1, q2, q3⟩ := o32 k b S (zX xs (Int32.ofNat k + (1 : Int32))) (by omega) hR
      exact zc_later C E hin1 q1 q2 (next b S2 q3)
    rw [if_neg c32]
    by_cases c33 : x = (33 : Int32)
    · rw [if_pos c33]
      obtain ⟨r, S1, S2, q1, q2, q3⟩ := o33 k b S (zX xs (Int32.ofNat k + (1 : Int32))) (by omega) hR
      exact zc_truths C E hin1 q1 q2 (next b S2 q3)
    rw [if_neg c33]
    by_cases c34 : x = (34 : Int32)
    · rw [if_pos c34]
      obtain ⟨r, S1, S2, q1, q2, q3⟩ := o34 k b S (zX xs (Int32.ofNat k + (1 : Int32))) (zX xs (Int32.ofNat k + (2 : Int32))) (zX xs (Int32.ofNat k + (3 : Int32))) (by omega) hR
      exact zc_range C E hin1 hin2 hin3 q1 q2 (next b S2 q3)
    rw [if_neg c34]
    by_cases c35 : x = (35 : Int32)
    · rw [if_pos c35]
      obtain ⟨r, S1, S2, q1, q2, q3⟩ := o35 k b S (zX xs (Int32.ofNat k + (1 : Int32))) (by omega) hR
      exact zc_liars C E hin1 q1 q2 (next b S2 q3)
    rw [if_neg c35]
    by_cases c36 : x = (36 : Int32)
    · rw [if_pos c36]
      obtain ⟨r, S1, S2, q1, q2, q3⟩ := o36 k b S (zX xs (Int32.ofNat k + (1 : Int32))) (zX xs (Int32.ofNat k + (2 : Int32))) (by omega) hR
      exact zc_knock C E hin1 hin2 q1 q2 (next b S2 q3)
    rw [if_neg c36]
    by_cases c37 : x = (37 : Int32)
    · rw [if_pos c37]
      obtain ⟨r, S1, S2, q1, q2, q3⟩ := o37 k b S (zX xs (Int32.ofNat k + (1 : Int32))) (zX xs (Int32.ofNat k + (2 : Int32))) (by omega) hR
      exact zc_tells C E hin1 hin2 q1 q2 (next b S2 q3)
    rw [if_neg c37]
    by_cases c38 : x = (38 : Int32)
    · rw [if_pos c38]
      obtain ⟨r, S1, S2, q1, q2, q3⟩ := o38 k b S (zX xs (Int32.ofNat k + (1 : Int32))) (zX xs (Int32.ofNat k + (2 : Int32))) (zX xs (Int32.ofNat k + (3 : Int32))) (zX xs (Int32.ofNat k + (4 : Int32))) (by omega) hR
      exact zc_odds C E hin1 hin2 hin3 hin4 q1 q2 (next b S2 q3)
    rw [if_neg c38]
    by_cases c39 : x = (39 : Int32)
    · rw [if_pos c39]
      obtain ⟨r, S1, S2, q1, q2, q3⟩ := o39 k b S (zX xs (Int32.ofNat k + (1 : Int32))) (by omega) hR
      exact zc_image C E hin1 q1 q2 (next b S2 q3)
    rw [if_neg c39]
    by_cases c40 : x = (40 : Int32)
    · rw [if_pos c40]
      obtain ⟨r, S1, S2, q1, q2, q3⟩ := o40 k b S (zX xs (Int32.ofNat k + (1 : Int32))) (by omega) hR
      exact zc_back C E hin1 q1 q2 (next b S2 q3)
    rw [if_neg c40]
    by_cases c41 : x = (41 : Int32)
    · rw [if_pos c41]
      obtain ⟨r, S1, S2, q1, q2, q3⟩ := o41 k b S (zX xs (Int32.ofNat k + (1 : Int32))) (by omega) hR
      exact zc_about C E hin1 q1 q2 (next b S2 q3)
    rw [if_neg c41]
    exact next b S (mono k b S hR)
end ZL
set_option maxHeartbeats 8000000 in
set_option maxRecDepth 100000 in
/-- THE LAW, given that each pair of calls agrees -/
theorem z_start (Rel : Nat → Bool → mT → Prop) (O : zH Rel) (mono : ∀ k b S, Rel k b S → Rel (k + 6) b S) (R0 : Rel 0 false S00) {p : Program} {e : Env} {s : State} {m : MethodId} {below : List Frame} {meth : Method} {c : Code} (l : Launch) {b L : Nat} {xs : Nat → Int32} (hL : L ≤ 3072) (C0 : lw_At p s m meth c b L xs) : W p l e room_1 s m #[Value.ref b] below meth c s.heap [] 0 0 (lw_Z below #[Value.ref b] s) (entryFrame m ([Value.ref b] : List Value).toArray 4) := by
  obtain ⟨G, g1, g2, C⟩ := mStart C0
  obtain ⟨hx, hb, hr, hml, hown, hts, hX, hbl, hlocks, hgv⟩ := C0
  have E : zEn s G b L xs := ⟨hX, hbl, g1, g2⟩
  have k : zW p l e s m below meth c G b (lw_Z below #[Value.ref b] s) (true, 0, [.ref 900300, .retAddr 0, .retAddr 0, .retAddr 0], [], cH_0) := by
    refine msegT C kL_in 0 2 (g := (_, 4, [.ref 900300, .retAddr 0, .retAddr 0, .retAddr 0], [.ref 0, .ref 0], cHa)) rfl (by decide +kernel) ?_
    refine mcall (kd := 3) (vs := [.ref 0]) (rest := [.ref 0]) (r := none) (h' := cHb) (ok' := true) C lkRL_9 cI_a (kL_in _ (List.mem_of_getElem? (i := 2) rfl)).1 ⟨_, _, rfl, rfl, (Nat.le_of_ble_eq_true rfl)⟩ (Nat.le_of_ble_eq_true rfl) (Nat.le_of_ble_eq_true rfl) (Nat.le_of_ble_eq_true rfl) (Nat.le_of_ble_eq_true rfl) (Nat.le_of_ble_eq_true rfl) ?_
    refine msegT C kL_in 3 3 (g := (_, 12, [.ref 900300, .ref 0, .retAddr 0, .retAddr 0], [.ref 187, .ref 187], cHc)) rfl (by decide +kernel) ?_
    refine mcall (kd := 3) (vs := [.ref 187]) (rest := [.ref 187]) (r := none) (h' := cHd) (ok' := true) C lkRL_12 cI_c (kL_in _ (List.mem_of_getElem? (i := 6) rfl)).1 ⟨_, _, rfl, rfl, (Nat.le_of_ble_eq_true rfl)⟩ (Nat.le_of_ble_eq_true rfl) (Nat.le_of_ble_eq_true rfl) (Nat.le_of_ble_eq_true rfl) (Nat.le_of_ble_eq_true rfl) (Nat.le_of_ble_eq_true rfl) ?_
    refine msegT C kL_in 7 3 (g := (true, 18, [.ref 900300, .ref 0, .ref 187, .int (Int32.ofNat 0)], [], cHd)) rfl rfl ?_
    refine mheq (h' := mk false S00) (ok' := true) rfl rfl (fun i hi => cEnd i hi) ?_
    exact z_loop Rel O mono C E hL hr hlocks (L + 1) 0 false S00 true R0 (by omega) (by omega)
  rw [lg_entry_eq]
  have hm : [Value.ref b] = [Value.ref 900300].map (mCv G) := by
    rw [List.map_cons, zCv E]
    rfl
  have hls := lv_entry ([Value.ref b]) (n := 4) (by show 1 ≤ 4; omega)
  have hl2 : lv_has ((lg_sl [Value.ref b] ++ List.replicate (4 - (lg_sl [Value.ref b]).length) Slot.unset).toArray) 4 (mLv G (mL0 4 [.ref 900300])) := by
    refine mL0_has (vs := [.ref 900300]) rfl ?_
    rw [← hm]
    exact hls
  exact k s.heap [] _ ⟨fun k q h => by simp [mWs, hN, cH_0] at h, by decide⟩ va_S.rf hl2 (Nat.le_refl _) (Nat.le_refl _)
