def wp_Text_hasRoom (σ : KS) (post : Int32 → KS → Prop) : Prop :=
 ((1025 < ((k_fed σ) + 5) → post 0 σ) ∧
 (¬ (1025 < ((k_fed σ) + 5)) → post 1 σ))
def wp_Text_addWord (a1 : Int32) (σ : KS) (post : KS → Prop) : Prop :=
 ((1025 ≤ (k_fed σ) → post σ) ∧
 (¬ (1025 ≤ (k_fed σ)) → (vp_in (k_fed σ) 1025 ∧
 (∀ σ1, σ1 = (k_w' σ (upd (k_w σ) ((k_fed σ) : Int32).toNatClampNeg a1)) →
 (∀ σ2, σ2 = (k_fed' σ1 ((k_fed σ1) + 1)) →
 post σ2)))))
def wp_Text_fedOctets (σ : KS) (post : Int32 → KS → Prop) : Prop :=
 post ((k_fed σ) * 4) σ
def wp_Text_cutTo (a1 : Int32) (σ : KS) (post : KS → Prop) : Prop :=
 (∀ σ1, σ1 = (k_len' σ a1) →
 post σ1)
def wp_Text_clear (σ : KS) (post : KS → Prop) : Prop :=
 (∀ σ1, σ1 = (k_fed' σ 0) →
 (∀ σ2, σ2 = (k_len' σ1 0) →
 post σ2))
def wp_Text_size (σ : KS) (post : Int32 → KS → Prop) : Prop :=
 post (k_len σ) σ
def wp_Text_letterAt (a1 : Int32) (σ : KS) (post : Int32 → KS → Prop) : Prop :=
 ((a1 < 0 → post (-1) σ) ∧
 (¬ (a1 < 0) → (((k_len σ) ≤ a1 → post (-1) σ) ∧
 (¬ ((k_len σ) ≤ a1) → ((a1 < 4096 → (vp_in (a1 >>> (2 &&& 31)) 1025 ∧
 post ((((k_w σ ((a1 >>> (2 &&& 31)) : Int32).toNatClampNeg).toUInt32 >>> (((24 - (8 * (a1 &&& 3))) : Int32).toUInt32 &&& Int32.toUInt32 31)).toInt32) &&& 255) σ)) ∧
 (¬ (a1 < 4096) → post (-1) σ))))))
def L_Text_firstBadOctet_36 (post : Int32 → KS → Prop) (k2 : Int32 → KS → Prop) (x1 : Int32) (σ : KS) : Prop :=
 k2 (x1 + 1) σ
def L_Text_firstBadOctet_2 (post : Int32 → KS → Prop) : Nat → Int32 → KS → Prop
  | 0, _, _ => False
  | n + 1, x1, σ =>
    (((k_len σ) ≤ x1 → post (-1) σ) ∧
     (¬ ((k_len σ) ≤ x1) → wp_Text_letterAt x1 σ (fun r1 σ2 =>
     ((r1 = 10 → L_Text_firstBadOctet_36 post (fun x1 σ => L_Text_firstBadOctet_2 post  n x1 σ) x1 σ2) ∧
     (¬ (r1 = 10) → ((r1 < 32 → post x1 σ2) ∧
     (¬ (r1 < 32) → ((r1 ≤ 126 → L_Text_firstBadOctet_36 post (fun x1 σ => L_Text_firstBadOctet_2 post  n x1 σ) x1 σ2) ∧
     (¬ (r1 ≤ 126) → post x1 σ2)))))))))
def wp_Text_firstBadOctet (σ : KS) (post : Int32 → KS → Prop) : Prop :=
 ∃ n, L_Text_firstBadOctet_2 post n 0 σ
def L_Text_lineFeedFrom_2 (post : Int32 → KS → Prop) : Nat → Int32 → KS → Prop
  | 0, _, _ => False
  | n + 1, x2, σ =>
    (((k_len σ) ≤ x2 → post (k_len σ) σ) ∧
     (¬ ((k_len σ) ≤ x2) → wp_Text_letterAt x2 σ (fun r1 σ2 =>
     ((¬ r1 = 10 → (fun x2 σ => L_Text_lineFeedFrom_2 post  n x2 σ) (x2 + 1) σ2) ∧
     (r1 = 10 → post x2 σ2)))))
def wp_Text_lineFeedFrom (a1 : Int32) (σ : KS) (post : Int32 → KS → Prop) : Prop :=
 ∃ n, L_Text_lineFeedFrom_2 post n a1 σ
def L_Text_lineFeedsIn_25 (post : Int32 → KS → Prop) (k5 : Int32 → Int32 → Int32 → KS → Prop) (x2 : Int32) (x3 : Int32) (x4 : Int32) (σ : KS) : Prop :=
 k5 x2 x3 (x4 + 1) σ
def L_Text_lineFeedsIn_5 (post : Int32 → KS → Prop) : Nat → Int32 → Int32 → Int32 → KS → Prop
  | 0, _, _, _, _ => False
  | n + 1, x2, x3, x4, σ =>
    ((x2 ≤ x4 → post x3 σ) ∧
     (¬ (x2 ≤ x4) → wp_Text_letterAt x4 σ (fun r1 σ2 =>
     ((¬ r1 = 10 → L_Text_lineFeedsIn_25 post (fun x2 x3 x4 σ => L_Text_lineFeedsIn_5 post  n x2 x3 x4 σ) x2 x3 x4 σ2) ∧
     (r1 = 10 → L_Text_lineFeedsIn_25 post (fun x2 x3 x4 σ => L_Text_lineFeedsIn_5 post  n x2 x3 x4 σ) x2 (x3 + 1) x4 σ2)))))
def wp_Text_lineFeedsIn (a1 : Int32) (a2 : Int32) (σ : KS) (post : Int32 → KS → Prop) : Prop :=
 ∃ n, L_Text_lineFeedsIn_5 post n a2 0 a1 σ
def L_Text_blanksFrom_2 (post : Int32 → KS → Prop) : Nat → Int32 → Int32 → KS → Prop
  | 0, _, _, _ => False
  | n + 1, x1, x2, σ =>
    (((k_len σ) ≤ x2 → post ((k_len σ) - x1) σ) ∧
     (¬ ((k_len σ) ≤ x2) → wp_Text_letterAt x2 σ (fun r1 σ2 =>
     ((r1 = 32 → (fun x1 x2 σ => L_Text_blanksFrom_2 post  n x1 x2 σ) x1 (x2 + 1) σ2) ∧
     (¬ (r1 = 32) → post (x2 - x1) σ2)))))
def wp_Text_blanksFrom (a1 : Int32) (σ : KS) (post : Int32 → KS → Prop) : Prop :=
 ∃ n, L_Text_blanksFrom_2 post n a1 a1 σ
def wp_Text_joinsLinesAt (a1 : Int32) (σ : KS) (post : Int32 → KS → Prop) : Prop :=
 wp_Text_letterAt a1 σ (fun r1 σ2 =>
 ((¬ r1 = 92 → post 0 σ2) ∧
 (r1 = 92 → wp_Text_letterAt (a1 + 1) σ2 (fun r3 σ4 =>
 ((¬ r3 = 10 → post 0 σ4) ∧
 (r3 = 10 → post 1 σ4))))))
def wp_Tokens_clear (σ : KS) (post : KS → Prop) : Prop :=
 (∀ σ1, σ1 = (k_cnt' σ 0) →
 post σ1)
def wp_Tokens_size (σ : KS) (post : Int32 → KS → Prop) : Prop :=
 post (k_cnt σ) σ
def wp_Tokens_add (a1 : Int32) (a2 : Int32) (a3 : Int32) (a4 : Int32) (σ : KS) (post : KS → Prop) : Prop :=
 ((5463 ≤ (k_cnt σ) → post σ) ∧
 (¬ (5463 ≤ (k_cnt σ)) → (vp_in (k_cnt σ) 5463 ∧
 (∀ σ1, σ1 = (k_pk' σ (vp_updL (k_pk σ) ((k_cnt σ) : Int32).toNatClampNeg (((a1 : Int32).toInt64 ||| (((a2 : Int32).toInt64 <<< ((16 : Int32).toInt64 &&& 63)) ||| ((a3 : Int32).toInt64 <<< ((32 : Int32).toInt64 &&& 63)))) ||| ((a4 : Int32).toInt64 <<< ((48 : Int32).toInt64 &&& 63))))) →
 (∀ σ2, σ2 = (k_cnt' σ1 ((k_cnt σ1) + 1)) →
 post σ2)))))
def wp_Tokens_part (a1 : Int32) (a2 : Int32) (σ : KS) (post : Int32 → KS → Prop) : Prop :=
 ((a1 < 0 → post (-1) σ) ∧
 (¬ (a1 < 0) → ((a1 < (k_cnt σ) → (vp_in a1 5463 ∧
 post ((((k_pk σ (a1 : Int32).toNatClampNeg).toUInt64 >>> (((a2 * 16) : Int32).toInt64.toUInt64 &&& Int64.toUInt64 63)).toInt64).toInt32 &&& 65535) σ)) ∧
 (¬ (a1 < (k_cnt σ)) → post (-1) σ))))
def L_Shapes_isDigit_56 (post : Int32 → KS → Prop) (σ : KS) : Prop :=
 post 1 σ
def L_Shapes_isDigit_44 (post : Int32 → KS → Prop) (x0 : Int32) (σ : KS) : Prop :=
 ((x0 < 65 → post 0 σ) ∧
 (¬ (x0 < 65) → ((70 < x0 → post 0 σ) ∧
 (¬ (70 < x0) → L_Shapes_isDigit_56 post σ))))
def L_Shapes_isDigit_26 (post : Int32 → KS → Prop) (x0 : Int32) (x1 : Int32) (σ : KS) : Prop :=
 ((¬ x1 = 16 → post 0 σ) ∧
 (x1 = 16 → ((x0 < 97 → L_Shapes_isDigit_44 post x0 σ) ∧
 (¬ (x0 < 97) → ((x0 ≤ 102 → L_Shapes_isDigit_56 post σ) ∧
 (¬ (x0 ≤ 102) → L_Shapes_isDigit_44 post x0 σ))))))
def wp_Shapes_isDigit (a1 : Int32) (a2 : Int32) (σ : KS) (post : Int32 → KS → Prop) : Prop :=
 ((a1 < 48 → L_Shapes_isDigit_26 post a1 a2 σ) ∧
 (¬ (a1 < 48) → ((57 < a1 → L_Shapes_isDigit_26 post a1 a2 σ) ∧
 (¬ (57 < a1) → ((a2 ≤ (a1 - 48) → post 0 σ) ∧
 (¬ (a2 ≤ (a1 - 48)) → post 1 σ))))))
def L_Shapes_beginsName_30 (post : Int32 → KS → Prop) (σ : KS) : Prop :=
 post 1 σ
def L_Shapes_beginsName_24 (post : Int32 → KS → Prop) (x0 : Int32) (σ : KS) : Prop :=
 ((¬ x0 = 95 → post 0 σ) ∧
 (x0 = 95 → L_Shapes_beginsName_30 post σ))
def L_Shapes_beginsName_12 (post : Int32 → KS → Prop) (x0 : Int32) (σ : KS) : Prop :=
 ((x0 < 65 → L_Shapes_beginsName_24 post x0 σ) ∧
 (¬ (x0 < 65) → ((x0 ≤ 90 → L_Shapes_beginsName_30 post σ) ∧
 (¬ (x0 ≤ 90) → L_Shapes_beginsName_24 post x0 σ))))
def wp_Shapes_beginsName (a1 : Int32) (σ : KS) (post : Int32 → KS → Prop) : Prop :=
 ((a1 < 97 → L_Shapes_beginsName_12 post a1 σ) ∧
 (¬ (a1 < 97) → ((a1 ≤ 122 → L_Shapes_beginsName_30 post σ) ∧
 (¬ (a1 ≤ 122) → L_Shapes_beginsName_12 post a1 σ))))
def L_Shapes_continuesName_16 (post : Int32 → KS → Prop) (σ : KS) : Prop :=
 post 1 σ
def wp_Shapes_continuesName (a1 : Int32) (σ : KS) (post : Int32 → KS → Prop) : Prop :=
 wp_Shapes_beginsName a1 σ (fun r1 σ2 =>
 ((¬ r1 = 0 → L_Shapes_continuesName_16 post σ2) ∧
 (r1 = 0 → wp_Shapes_isDigit a1 10 σ2 (fun r3 σ4 =>
 ((r3 = 0 → post 0 σ4) ∧
 (¬ (r3 = 0) → L_Shapes_continuesName_16 post σ4))))))
def L_Shapes_nameEnd_2 (post : Int32 → KS → Prop) : Nat → Int32 → KS → Prop
  | 0, _, _ => False
  | n + 1, x2, σ =>
    wp_Text_size σ (fun r1 σ2 =>
     ((r1 ≤ x2 → post x2 σ2) ∧
     (¬ (r1 ≤ x2) → wp_Text_letterAt x2 σ2 (fun r3 σ4 =>
     wp_Shapes_continuesName r3 σ4 (fun r5 σ6 =>
     ((r5 = 0 → post x2 σ6) ∧
     (¬ (r5 = 0) → (fun x2 σ => L_Shapes_nameEnd_2 post  n x2 σ) (x2 + 1) σ6)))))))
def wp_Shapes_nameEnd (a1 : Int32) (σ : KS) (post : Int32 → KS → Prop) : Prop :=
 ∃ n, L_Shapes_nameEnd_2 post n a1 σ
def L_Shapes_isSpelled_15 (i1 : Nat) (post : Int32 → KS → Prop) : Nat → Int32 → Int32 → KS → Prop
  | 0, _, _, _ => False
  | n + 1, x2, x4, σ =>
    wp_Str_length i1 σ (fun r3 σ4 =>
     ((r3 ≤ x4 → post 1 σ4) ∧
     (¬ (r3 ≤ x4) → wp_Str_charAt i1 x4 σ4 (fun r5 σ6 =>
     wp_Text_letterAt (x2 + x4) σ6 (fun r7 σ8 =>
     ((r5 = r7 → (fun x2 x4 σ => L_Shapes_isSpelled_15 i1 post  n x2 x4 σ) x2 (x4 + 1) σ8) ∧
     (¬ (r5 = r7) → post 0 σ8)))))))
def wp_Shapes_isSpelled (i1 : Nat) (a2 : Int32) (a3 : Int32) (σ : KS) (post : Int32 → KS → Prop) : Prop :=
 wp_Str_length i1 σ (fun r1 σ2 =>
 ((r1 = (a3 - a2) → ∃ n, L_Shapes_isSpelled_15 i1 post n a2 0 σ2) ∧
 (¬ (r1 = (a3 - a2)) → post 0 σ2)))
def L_Shapes_nameKind_2 (post : Int32 → KS → Prop) : Nat → Int32 → Int32 → Int32 → KS → Prop
  | 0, _, _, _, _ => False
  | n + 1, x1, x2, x3, σ =>
    ((35 ≤ x3 → post 4 σ) ∧
     (¬ (35 ≤ x3) → (vp_in x3 35 ∧
     wp_Shapes_isSpelled (kwI ((x3 : Int32).toNatClampNeg)) x1 x2 σ (fun r1 σ2 =>
     ((r1 = 0 → (fun x1 x2 x3 σ => L_Shapes_nameKind_2 post  n x1 x2 x3 σ) x1 x2 (x3 + 1) σ2) ∧
     (¬ (r1 = 0) → post (8 + x3) σ2))))))
def wp_Shapes_nameKind (a1 : Int32) (a2 : Int32) (σ : KS) (post : Int32 → KS → Prop) : Prop :=
 ∃ n, L_Shapes_nameKind_2 post n a1 a2 0 σ
def L_Shapes_beginsNumber_42 (post : Int32 → KS → Prop) (σ : KS) : Prop :=
 post 1 σ
def wp_Shapes_beginsNumber (a1 : Int32) (σ : KS) (post : Int32 → KS → Prop) : Prop :=
 wp_Text_letterAt a1 σ (fun r1 σ2 =>
 wp_Shapes_isDigit r1 10 σ2 (fun r3 σ4 =>
 ((¬ r3 = 0 → L_Shapes_beginsNumber_42 post σ4) ∧
 (r3 = 0 → ((¬ r1 = 46 → post 0 σ4) ∧
 (r1 = 46 → wp_Text_letterAt (a1 + 1) σ4 (fun r5 σ6 =>
 wp_Shapes_isDigit r5 10 σ6 (fun r7 σ8 =>
 ((r7 = 0 → post 0 σ8) ∧
 (¬ (r7 = 0) → L_Shapes_beginsNumber_42 post σ8))))))))))
def wp_Shapes_baseAt (a1 : Int32) (σ : KS) (post : Int32 → KS → Prop) : Prop :=
 wp_Text_letterAt a1 σ (fun r1 σ2 =>
 ((r1 = 48 → wp_Text_letterAt (a1 + 1) σ2 (fun r3 σ4 =>
 ((r3 = 66 → post 2 σ4) ∧
 (¬ (r3 = 66) → ((r3 = 79 → post 8 σ4) ∧
 (¬ (r3 = 79) → ((r3 = 88 → post 16 σ4) ∧
 (¬ (r3 = 88) → ((r3 = 98 → post 2 σ4) ∧
 (¬ (r3 = 98) → ((r3 = 111 → post 8 σ4) ∧
 (¬ (r3 = 111) → ((r3 = 120 → post 16 σ4) ∧
 (¬ (r3 = 120) → post 10 σ4)))))))))))))) ∧
 (¬ (r1 = 48) → post 10 σ2)))
def L_Shapes_digitsEnd_76 (post : Int32 → KS → Prop) (k2 : Int32 → Int32 → Int32 → KS → Prop) (x1 : Int32) (x2 : Int32) (x3 : Int32) (σ : KS) : Prop :=
 k2 x1 x2 (x3 + 1) σ
def L_Shapes_digitsEnd_57 (post : Int32 → KS → Prop) (k2 : Int32 → Int32 → Int32 → KS → Prop) (x1 : Int32) (x2 : Int32) (x3 : Int32) (x4 : Int32) (s0 : Int32) (σ : KS) : Prop :=
 ((¬ s0 = 0 → L_Shapes_digitsEnd_76 post k2 x1 x2 x3 σ) ∧
 (s0 = 0 → wp_Shapes_isDigit x4 x2 σ (fun r9 σ10 =>
 ((¬ r9 = 0 → L_Shapes_digitsEnd_76 post k2 x1 x2 x3 σ10) ∧
 (r9 = 0 → post x3 σ10)))))
def L_Shapes_digitsEnd_56 (post : Int32 → KS → Prop) (k2 : Int32 → Int32 → Int32 → KS → Prop) (x1 : Int32) (x2 : Int32) (x3 : Int32) (x4 : Int32) (σ : KS) : Prop :=
 L_Shapes_digitsEnd_57 post k2 x1 x2 x3 x4 0 σ
def L_Shapes_digitsEnd_2 (post : Int32 → KS → Prop) : Nat → Int32 → Int32 → Int32 → KS → Prop
  | 0, _, _, _, _ => False
  | n + 1, x1, x2, x3, σ =>
    wp_Text_size σ (fun r1 σ2 =>
     ((r1 ≤ x3 → post x3 σ2) ∧
     (¬ (r1 ≤ x3) → wp_Text_letterAt x3 σ2 (fun r3 σ4 =>
     ((¬ r3 = 95 → L_Shapes_digitsEnd_56 post (fun x1 x2 x3 σ => L_Shapes_digitsEnd_2 post  n x1 x2 x3 σ) x1 x2 x3 r3 σ4) ∧
     (r3 = 95 → ((x3 ≤ x1 → L_Shapes_digitsEnd_56 post (fun x1 x2 x3 σ => L_Shapes_digitsEnd_2 post  n x1 x2 x3 σ) x1 x2 x3 r3 σ4) ∧
     (¬ (x3 ≤ x1) → wp_Text_letterAt (x3 + 1) σ4 (fun r5 σ6 =>
     wp_Shapes_isDigit r5 x2 σ6 (fun r7 σ8 =>
     ((r7 = 0 → L_Shapes_digitsEnd_56 post (fun x1 x2 x3 σ => L_Shapes_digitsEnd_2 post  n x1 x2 x3 σ) x1 x2 x3 r3 σ8) ∧
     (¬ (r7 = 0) → L_Shapes_digitsEnd_57 post (fun x1 x2 x3 σ => L_Shapes_digitsEnd_2 post  n x1 x2 x3 σ) x1 x2 x3 r3 1 σ8))))))))))))
def wp_Shapes_digitsEnd (a1 : Int32) (a2 : Int32) (σ : KS) (post : Int32 → KS → Prop) : Prop :=
 ∃ n, L_Shapes_digitsEnd_2 post n a1 a2 a1 σ
def L_Shapes_basedEnd_24 (post : Int32 → KS → Prop) (x2 : Int32) (s0 : Int32) (σ : KS) : Prop :=
 wp_Shapes_digitsEnd s0 x2 σ (fun r3 σ4 =>
 ((¬ r3 = s0 → post r3 σ4) ∧
 (r3 = s0 → post (-1) σ4)))
def wp_Shapes_basedEnd (a1 : Int32) (a2 : Int32) (σ : KS) (post : Int32 → KS → Prop) : Prop :=
 wp_Text_letterAt (a1 + 2) σ (fun r1 σ2 =>
 ((¬ r1 = 95 → L_Shapes_basedEnd_24 post a2 (a1 + 2) σ2) ∧
 (r1 = 95 → L_Shapes_basedEnd_24 post a2 (a1 + 3) σ2)))
def L_Shapes_hasIdleZero_48 (post : Int32 → KS → Prop) (k17 : Int32 → Int32 → KS → Prop) (x2 : Int32) (x3 : Int32) (σ : KS) : Prop :=
 k17 x2 (x3 + 1) σ
def L_Shapes_hasIdleZero_17 (post : Int32 → KS → Prop) : Nat → Int32 → Int32 → KS → Prop
  | 0, _, _, _ => False
  | n + 1, x2, x3, σ =>
    ((x2 ≤ x3 → post 0 σ) ∧
     (¬ (x2 ≤ x3) → wp_Text_letterAt x3 σ (fun r3 σ4 =>
     ((r3 = 48 → L_Shapes_hasIdleZero_48 post (fun x2 x3 σ => L_Shapes_hasIdleZero_17 post  n x2 x3 σ) x2 x3 σ4) ∧
     (¬ (r3 = 48) → ((r3 = 95 → L_Shapes_hasIdleZero_48 post (fun x2 x3 σ => L_Shapes_hasIdleZero_17 post  n x2 x3 σ) x2 x3 σ4) ∧
     (¬ (r3 = 95) → post 1 σ4)))))))
def wp_Shapes_hasIdleZero (a1 : Int32) (a2 : Int32) (σ : KS) (post : Int32 → KS → Prop) : Prop :=
 wp_Text_letterAt a1 σ (fun r1 σ2 =>
 ((r1 = 48 → ∃ n, L_Shapes_hasIdleZero_17 post n a2 a1 σ2) ∧
 (¬ (r1 = 48) → post 0 σ2)))
def L_Shapes_realEnd_85 (post : Int32 → KS → Prop) (x2 : Int32) (s0 : Int32) (σ : KS) : Prop :=
 wp_Shapes_digitsEnd s0 10 σ (fun r9 σ10 =>
 ((¬ r9 = s0 → post r9 σ10) ∧
 (r9 = s0 → post x2 σ10)))
def L_Shapes_realEnd_76 (post : Int32 → KS → Prop) (x2 : Int32) (σ : KS) : Prop :=
 L_Shapes_realEnd_85 post x2 (x2 + 2) σ
def L_Shapes_realEnd_50 (post : Int32 → KS → Prop) (x2 : Int32) (σ : KS) : Prop :=
 wp_Text_letterAt (x2 + 1) σ (fun r7 σ8 =>
 ((r7 = 43 → L_Shapes_realEnd_76 post x2 σ8) ∧
 (¬ (r7 = 43) → ((¬ r7 = 45 → L_Shapes_realEnd_85 post x2 (x2 + 1) σ8) ∧
 (r7 = 45 → L_Shapes_realEnd_76 post x2 σ8)))))
def L_Shapes_realEnd_26 (post : Int32 → KS → Prop) (s0 : Int32) (σ : KS) : Prop :=
 wp_Text_letterAt s0 σ (fun r5 σ6 =>
 ((r5 = 101 → L_Shapes_realEnd_50 post s0 σ6) ∧
 (¬ (r5 = 101) → ((r5 = 69 → L_Shapes_realEnd_50 post s0 σ6) ∧
 (¬ (r5 = 69) → post s0 σ6)))))
def wp_Shapes_realEnd (a1 : Int32) (σ : KS) (post : Int32 → KS → Prop) : Prop :=
 wp_Text_letterAt a1 σ (fun r1 σ2 =>
 ((¬ r1 = 46 → L_Shapes_realEnd_26 post a1 σ2) ∧
 (r1 = 46 → wp_Shapes_digitsEnd (a1 + 1) 10 σ2 (fun r3 σ4 =>
 L_Shapes_realEnd_26 post r3 σ4))))
def L_Shapes_numberEnd_62 (post : Int32 → KS → Prop) (x3 : Int32) (σ : KS) : Prop :=
 wp_Text_letterAt x3 σ (fun r11 σ12 =>
 wp_Shapes_continuesName r11 σ12 (fun r13 σ14 =>
 ((r13 = 0 → post x3 σ14) ∧
 (¬ (r13 = 0) → post (-1) σ14))))
def L_Shapes_numberEnd_28 (post : Int32 → KS → Prop) (x1 : Int32) (x2 : Int32) (s0 : Int32) (σ : KS) : Prop :=
 ((¬ x2 = 10 → L_Shapes_numberEnd_62 post s0 σ) ∧
 (x2 = 10 → wp_Shapes_realEnd s0 σ (fun r7 σ8 =>
 ((¬ r7 = s0 → L_Shapes_numberEnd_62 post r7 σ8) ∧
 (r7 = s0 → wp_Shapes_hasIdleZero x1 r7 σ8 (fun r9 σ10 =>
 ((r9 = 0 → L_Shapes_numberEnd_62 post r7 σ10) ∧
 (¬ (r9 = 0) → post (-1) σ10))))))))
def wp_Shapes_numberEnd (a1 : Int32) (σ : KS) (post : Int32 → KS → Prop) : Prop :=
 wp_Shapes_baseAt a1 σ (fun r1 σ2 =>
 ((¬ r1 = 10 → wp_Shapes_basedEnd a1 r1 σ2 (fun r3 σ4 =>
 L_Shapes_numberEnd_28 post a1 r1 r3 σ4)) ∧
 (r1 = 10 → wp_Shapes_digitsEnd a1 10 σ2 (fun r5 σ6 =>
 L_Shapes_numberEnd_28 post a1 r1 r5 σ6))))
def L_Shapes_numberKind_26 (post : Int32 → KS → Prop) (s0 : Int32) (σ : KS) : Prop :=
 ((s0 = 0 → post 6 σ) ∧
 (¬ (s0 = 0) → post 5 σ))
def L_Shapes_numberKind_21 (post : Int32 → KS → Prop) (σ : KS) : Prop :=
 L_Shapes_numberKind_26 post 1 σ
def wp_Shapes_numberKind (a1 : Int32) (a2 : Int32) (σ : KS) (post : Int32 → KS → Prop) : Prop :=
 wp_Shapes_baseAt a1 σ (fun r1 σ2 =>
 ((¬ r1 = 10 → L_Shapes_numberKind_21 post σ2) ∧
 (r1 = 10 → wp_Shapes_digitsEnd a1 10 σ2 (fun r3 σ4 =>
 ((¬ r3 = a2 → L_Shapes_numberKind_26 post 0 σ4) ∧
 (r3 = a2 → L_Shapes_numberKind_21 post σ4))))))
def wp_Shapes_prefixLength (a1 : Int32) (a2 : Int32) (σ : KS) (post : Int32 → KS → Prop) : Prop :=
 ((¬ a1 = 114 → ((¬ a1 = 102 → post 0 σ) ∧
 (a1 = 102 → ((¬ a2 = 114 → post 1 σ) ∧
 (a2 = 114 → post 2 σ))))) ∧
 (a1 = 114 → ((¬ a2 = 102 → post 1 σ) ∧
 (a2 = 102 → post 2 σ))))
def L_Shapes_quoteOfStringAt_45 (post : Int32 → KS → Prop) (x2 : Int32) (σ : KS) : Prop :=
 post x2 σ
def wp_Shapes_quoteOfStringAt (a1 : Int32) (σ : KS) (post : Int32 → KS → Prop) : Prop :=
 wp_Text_letterAt a1 σ (fun r1 σ2 =>
 wp_Text_letterAt (a1 + 1) σ2 (fun r3 σ4 =>
 wp_Shapes_prefixLength r1 r3 σ4 (fun r5 σ6 =>
 wp_Text_letterAt (a1 + r5) σ6 (fun r7 σ8 =>
 ((r7 = 39 → L_Shapes_quoteOfStringAt_45 post (a1 + r5) σ8) ∧
 (¬ (r7 = 39) → ((¬ r7 = 34 → post (-1) σ8) ∧
 (r7 = 34 → L_Shapes_quoteOfStringAt_45 post (a1 + r5) σ8))))))))
def wp_Shapes_standsThrice (a1 : Int32) (a2 : Int32) (σ : KS) (post : Int32 → KS → Prop) : Prop :=
 wp_Text_letterAt a2 σ (fun r1 σ2 =>
 ((¬ r1 = a1 → post 0 σ2) ∧
 (r1 = a1 → wp_Text_letterAt (a2 + 1) σ2 (fun r3 σ4 =>
 ((¬ r3 = a1 → post 0 σ4) ∧
 (r3 = a1 → wp_Text_letterAt (a2 + 2) σ4 (fun r5 σ6 =>
 ((¬ r5 = a1 → post 0 σ6) ∧
 (r5 = a1 → post 1 σ6)))))))))
def L_Shapes_stringEnd_105 (post : Int32 → KS → Prop) (k29 : Int32 → Int32 → Int32 → KS → Prop) (x2 : Int32) (x3 : Int32) (x4 : Int32) (σ : KS) : Prop :=
 k29 x2 x3 (x4 + 1) σ
def L_Shapes_stringEnd_91 (post : Int32 → KS → Prop) (k29 : Int32 → Int32 → Int32 → KS → Prop) (x2 : Int32) (x3 : Int32) (x4 : Int32) (x5 : Int32) (σ : KS) : Prop :=
 ((¬ x5 = 10 → L_Shapes_stringEnd_105 post k29 x2 x3 x4 σ) ∧
 (x5 = 10 → ((¬ x3 = 1 → L_Shapes_stringEnd_105 post k29 x2 x3 x4 σ) ∧
 (x3 = 1 → post (-1) σ))))
def L_Shapes_stringEnd_29 (post : Int32 → KS → Prop) : Nat → Int32 → Int32 → Int32 → KS → Prop
  | 0, _, _, _, _ => False
  | n + 1, x2, x3, x4, σ =>
    wp_Text_size σ (fun r5 σ6 =>
     ((r5 ≤ x4 → post (-1) σ6) ∧
     (¬ (r5 ≤ x4) → wp_Text_letterAt x4 σ6 (fun r7 σ8 =>
     ((¬ r7 = 92 → ((¬ r7 = x2 → L_Shapes_stringEnd_91 post (fun x2 x3 x4 σ => L_Shapes_stringEnd_29 post  n x2 x3 x4 σ) x2 x3 x4 r7 σ8) ∧
     (r7 = x2 → ((x3 = 1 → post (x4 + x3) σ8) ∧
     (¬ (x3 = 1) → wp_Shapes_standsThrice x2 x4 σ8 (fun r9 σ10 =>
     ((r9 = 0 → L_Shapes_stringEnd_91 post (fun x2 x3 x4 σ => L_Shapes_stringEnd_29 post  n x2 x3 x4 σ) x2 x3 x4 r7 σ10) ∧
     (¬ (r9 = 0) → post (x4 + x3) σ10)))))))) ∧
     (r7 = 92 → L_Shapes_stringEnd_105 post (fun x2 x3 x4 σ => L_Shapes_stringEnd_29 post  n x2 x3 x4 σ) x2 x3 (x4 + 1) σ8))))))
def L_Shapes_stringEnd_23 (post : Int32 → KS → Prop) (x1 : Int32) (x2 : Int32) (s0 : Int32) (σ : KS) : Prop :=
 ∃ n, L_Shapes_stringEnd_29 post n x2 s0 (x1 + s0) σ
def wp_Shapes_stringEnd (a1 : Int32) (σ : KS) (post : Int32 → KS → Prop) : Prop :=
 wp_Text_letterAt a1 σ (fun r1 σ2 =>
 wp_Shapes_standsThrice r1 a1 σ2 (fun r3 σ4 =>
 ((r3 = 0 → L_Shapes_stringEnd_23 post a1 r1 1 σ4) ∧
 (¬ (r3 = 0) → L_Shapes_stringEnd_23 post a1 r1 3 σ4))))
def L_Shapes_signLength_2 (post : Int32 → KS → Prop) : Nat → Int32 → Int32 → KS → Prop
  | 0, _, _, _ => False
  | n + 1, x0, x1, σ =>
    ((3 ≤ x1 → post x1 σ) ∧
     (¬ (3 ≤ x1) → ((x0 < 0 → post x1 σ) ∧
     (¬ (x0 < 0) → wp_Str_length 79 σ (fun r1 σ2 =>
     ((r1 ≤ (x0 + x1) → post x1 σ2) ∧
     (¬ (r1 ≤ (x0 + x1)) → wp_Str_charAt 79 (x0 + x1) σ2 (fun r3 σ4 =>
     ((r3 = 32 → post x1 σ4) ∧
     (¬ (r3 = 32) → (fun x0 x1 σ => L_Shapes_signLength_2 post  n x0 x1 σ) x0 (x1 + 1) σ4))))))))))
def wp_Shapes_signLength (a1 : Int32) (σ : KS) (post : Int32 → KS → Prop) : Prop :=
 ∃ n, L_Shapes_signLength_2 post n a1 0 σ
def L_Shapes_isSign_8 (post : Int32 → KS → Prop) : Nat → Int32 → Int32 → Int32 → Int32 → KS → Prop
  | 0, _, _, _, _, _ => False
  | n + 1, x1, x2, x3, x4, σ =>
    ((x3 ≤ x4 → post 1 σ) ∧
     (¬ (x3 ≤ x4) → wp_Str_charAt 79 (x1 + x4) σ (fun r3 σ4 =>
     wp_Text_letterAt (x2 + x4) σ4 (fun r5 σ6 =>
     ((r3 = r5 → (fun x1 x2 x3 x4 σ => L_Shapes_isSign_8 post  n x1 x2 x3 x4 σ) x1 x2 x3 (x4 + 1) σ6) ∧
     (¬ (r3 = r5) → post 0 σ6))))))
def wp_Shapes_isSign (a1 : Int32) (a2 : Int32) (σ : KS) (post : Int32 → KS → Prop) : Prop :=
 wp_Shapes_signLength a1 σ (fun r1 σ2 =>
 ∃ n, L_Shapes_isSign_8 post n a1 a2 r1 0 σ2)
def L_Shapes_signKind_2 (post : Int32 → KS → Prop) : Nat → Int32 → Int32 → KS → Prop
  | 0, _, _, _ => False
  | n + 1, x1, x2, σ =>
    wp_Str_length 79 σ (fun r1 σ2 =>
     ((r1 < (x2 + 3) → post (-1) σ2) ∧
     (¬ (r1 < (x2 + 3)) → wp_Shapes_isSign x2 x1 σ2 (fun r3 σ4 =>
     ((r3 = 0 → (fun x1 x2 σ => L_Shapes_signKind_2 post  n x1 x2 σ) x1 (x2 + 3) σ4) ∧
     (¬ (r3 = 0) → post (43 + (x2 / 3)) σ4))))))
def wp_Shapes_signKind (a1 : Int32) (σ : KS) (post : Int32 → KS → Prop) : Prop :=
 ∃ n, L_Shapes_signKind_2 post n a1 0 σ
def wp_Shapes_signEnd (a1 : Int32) (a2 : Int32) (σ : KS) (post : Int32 → KS → Prop) : Prop :=
 ((¬ a2 = (-1) → wp_Shapes_signLength ((a2 - 43) * 3) σ (fun r1 σ2 =>
 post (a1 + r1) σ2)) ∧
 (a2 = (-1) → post (-1) σ))
def wp_Reader_beginLine (a1 : Int32) (σ : KS) (post : KS → Prop) : Prop :=
 (∀ σ1, σ1 = (k_at' σ a1) →
 (∀ σ2, σ2 = (k_open' σ1 0) →
 wp_Text_blanksFrom a1 σ2 (fun r3 σ4 =>
 (∀ σ5, σ5 = (k_lin' σ4 r3) →
 (∀ σ6, σ6 = (k_lht' σ5 0) →
 post σ6)))))
def wp_Reader_begin (σ : KS) (post : KS → Prop) : Prop :=
 (∀ σ1, σ1 = (k_deep' σ 0) →
 (vp_in 0 100 ∧
 (∀ σ2, σ2 = (k_lv' σ1 (upd (k_lv σ1) (0 : Int32).toNatClampNeg 0)) →
 (∀ σ3, σ3 = (k_line' σ2 1) →
 wp_Reader_beginLine 0 σ3 (fun σ4 =>
 post σ4)))))
def L_Reader_comeOutTo_0 (post : KS → Prop) : Nat → Int32 → KS → Prop
  | 0, _, _ => False
  | n + 1, x1, σ =>
    (((k_deep σ) ≤ 0 → post σ) ∧
     (¬ ((k_deep σ) ≤ 0) → (vp_in (k_deep σ) 100 ∧
     (((k_lv σ ((k_deep σ) : Int32).toNatClampNeg) ≤ x1 → post σ) ∧
     (¬ ((k_lv σ ((k_deep σ) : Int32).toNatClampNeg) ≤ x1) → (∀ σ1, σ1 = (k_deep' σ ((k_deep σ) - 1)) →
     wp_Tokens_add 3 (k_at σ1) (k_at σ1) (k_line σ1) σ1 (fun σ2 =>
     (fun x1 σ => L_Reader_comeOutTo_0 post  n x1 σ) x1 σ2)))))))
def wp_Reader_comeOutTo (a1 : Int32) (σ : KS) (post : KS → Prop) : Prop :=
 ∃ n, L_Reader_comeOutTo_0 post n a1 σ
def wp_Reader_endLine (σ : KS) (post : KS → Prop) : Prop :=
 (((k_lht σ) = 0 → post σ) ∧
 (¬ ((k_lht σ) = 0) → wp_Tokens_add 1 (k_at σ) (k_at σ) (k_line σ) σ (fun σ1 =>
 post σ1)))
def wp_Reader_end (σ : KS) (post : KS → Prop) : Prop :=
 wp_Reader_endLine σ (fun σ1 =>
 wp_Reader_comeOutTo 0 σ1 (fun σ2 =>
 wp_Tokens_add 0 (k_at σ2) (k_at σ2) (k_line σ2) σ2 (fun σ3 =>
 post σ3)))
def L_Reader_passLineFeed_34 (post : KS → Prop) (σ : KS) : Prop :=
 (∀ σ4, σ4 = (k_line' σ ((k_line σ) + 1)) →
 post σ4)
def wp_Reader_passLineFeed (σ : KS) (post : KS → Prop) : Prop :=
 (((k_open σ) ≤ 0 → wp_Reader_endLine σ (fun σ1 =>
 wp_Reader_beginLine ((k_at σ1) + 1) σ1 (fun σ2 =>
 L_Reader_passLineFeed_34 post σ2))) ∧
 (¬ ((k_open σ) ≤ 0) → (∀ σ3, σ3 = (k_at' σ ((k_at σ) + 1)) →
 L_Reader_passLineFeed_34 post σ3)))
def L_Reader_goIn_15 (post : Int32 → KS → Prop) (s0 : Int32) (σ : KS) : Prop :=
 ((¬ s0 = 0 → post 0 σ) ∧
 (s0 = 0 → ((((k_deep σ) + 1) < 100 → (∀ σ3, σ3 = (k_deep' σ ((k_deep σ) + 1)) →
 (vp_in (k_deep σ3) 100 ∧
 (∀ σ4, σ4 = (k_lv' σ3 (upd (k_lv σ3) ((k_deep σ3) : Int32).toNatClampNeg (k_lin σ3))) →
 wp_Tokens_add 2 (k_at σ4) (k_at σ4) (k_line σ4) σ4 (fun σ5 =>
 post 1 σ5))))) ∧
 (¬ (((k_deep σ) + 1) < 100) → post 0 σ))))
def wp_Reader_goIn (σ : KS) (post : Int32 → KS → Prop) : Prop :=
 wp_Tokens_size σ (fun r1 σ2 =>
 ((¬ r1 = 0 → L_Reader_goIn_15 post 0 σ2) ∧
 (r1 = 0 → L_Reader_goIn_15 post 1 σ2)))
def wp_Reader_settleLevel (σ : KS) (post : Int32 → KS → Prop) : Prop :=
 (vp_in (k_deep σ) 100 ∧
 (((k_lin σ) ≤ (k_lv σ ((k_deep σ) : Int32).toNatClampNeg) → wp_Reader_comeOutTo (k_lin σ) σ (fun σ1 =>
 (vp_in (k_deep σ1) 100 ∧
 ((¬ (k_lv σ1 ((k_deep σ1) : Int32).toNatClampNeg) = (k_lin σ1) → post 0 σ1) ∧
 ((k_lv σ1 ((k_deep σ1) : Int32).toNatClampNeg) = (k_lin σ1) → post 1 σ1))))) ∧
 (¬ ((k_lin σ) ≤ (k_lv σ ((k_deep σ) : Int32).toNatClampNeg)) → wp_Reader_goIn σ (fun r2 σ3 =>
 (vB r2 ∧ post r2 σ3)))))
def L_Reader_countOpen_56 (post : KS → Prop) (σ : KS) : Prop :=
 (∀ σ1, σ1 = (k_open' σ ((k_open σ) - 1)) →
 post σ1)
def L_Reader_countOpen_18 (post : KS → Prop) (σ : KS) : Prop :=
 (∀ σ2, σ2 = (k_open' σ ((k_open σ) + 1)) →
 post σ2)
def wp_Reader_countOpen (a1 : Int32) (σ : KS) (post : KS → Prop) : Prop :=
 ((a1 = 40 → L_Reader_countOpen_18 post σ) ∧
 (¬ (a1 = 40) → ((a1 = 91 → L_Reader_countOpen_18 post σ) ∧
 (¬ (a1 = 91) → ((¬ a1 = 123 → (((k_open σ) ≤ 0 → post σ) ∧
 (¬ ((k_open σ) ≤ 0) → ((a1 = 41 → L_Reader_countOpen_56 post σ) ∧
 (¬ (a1 = 41) → ((a1 = 93 → L_Reader_countOpen_56 post σ) ∧
 (¬ (a1 = 93) → ((¬ a1 = 125 → post σ) ∧
 (a1 = 125 → L_Reader_countOpen_56 post σ))))))))) ∧
 (a1 = 123 → L_Reader_countOpen_18 post σ))))))
def wp_Reader_take (a1 : Int32) (a2 : Int32) (σ : KS) (post : Int32 → KS → Prop) : Prop :=
 ((¬ a2 = (-1) → wp_Tokens_add a1 (k_at σ) a2 (k_line σ) σ (fun σ1 =>
 wp_Text_lineFeedsIn (k_at σ1) a2 σ1 (fun r2 σ3 =>
 (∀ σ4, σ4 = (k_line' σ3 ((k_line σ1) + r2)) →
 wp_Text_letterAt (k_at σ4) σ4 (fun r5 σ6 =>
 wp_Reader_countOpen r5 σ6 (fun σ7 =>
 (∀ σ8, σ8 = (k_at' σ7 a2) →
 post 1 σ8))))))) ∧
 (a2 = (-1) → post 0 σ))
def L_Reader_passToken_16 (post : Int32 → KS → Prop) (σ : KS) : Prop :=
 (∀ σ3, σ3 = (k_lht' σ 1) →
 wp_Shapes_quoteOfStringAt (k_at σ3) σ3 (fun r4 σ5 =>
 ((r4 = (-1) → wp_Text_letterAt (k_at σ5) σ5 (fun r6 σ7 =>
 wp_Shapes_beginsName r6 σ7 (fun r8 σ9 =>
 ((r8 = 0 → wp_Shapes_beginsNumber (k_at σ9) σ9 (fun r10 σ11 =>
 ((r10 = 0 → wp_Shapes_signKind (k_at σ11) σ11 (fun r12 σ13 =>
 wp_Shapes_signEnd (k_at σ13) r12 σ13 (fun r14 σ15 =>
 wp_Reader_take r12 r14 σ15 (fun r16 σ17 =>
 (vB r16 ∧ post r16 σ17))))) ∧
 (¬ (r10 = 0) → wp_Shapes_numberEnd (k_at σ11) σ11 (fun r18 σ19 =>
 wp_Shapes_numberKind (k_at σ19) r18 σ19 (fun r20 σ21 =>
 wp_Reader_take r20 r18 σ21 (fun r22 σ23 =>
 (vB r22 ∧ post r22 σ23)))))))) ∧
 (¬ (r8 = 0) → wp_Shapes_nameEnd (k_at σ9) σ9 (fun r24 σ25 =>
 wp_Shapes_nameKind (k_at σ25) r24 σ25 (fun r26 σ27 =>
 wp_Reader_take r26 r24 σ27 (fun r28 σ29 =>
 (vB r28 ∧ post r28 σ29))))))))) ∧
 (¬ (r4 = (-1)) → wp_Shapes_stringEnd r4 σ5 (fun r30 σ31 =>
 wp_Reader_take 7 r30 σ31 (fun r32 σ33 =>
 (vB r32 ∧ post r32 σ33)))))))
def wp_Reader_passToken (σ : KS) (post : Int32 → KS → Prop) : Prop :=
 ((¬ (k_lht σ) = 0 → L_Reader_passToken_16 post σ) ∧
 ((k_lht σ) = 0 → wp_Reader_settleLevel σ (fun r1 σ2 =>
 ((¬ r1 = 0 → L_Reader_passToken_16 post σ2) ∧
 (r1 = 0 → post 0 σ2)))))
def L_Reader_readText_169 (post : Int32 → KS → Prop) (σ : KS) : Prop :=
 wp_Reader_end σ (fun σ21 =>
 post (-1) σ21)
def L_Reader_readText_163 (post : Int32 → KS → Prop) (k21 : Int32 → KS → Prop) (x2 : Int32) (σ : KS) : Prop :=
 k21 (x2 + 1) σ
def L_Reader_readText_21 (post : Int32 → KS → Prop) : Nat → Int32 → KS → Prop
  | 0, _, _ => False
  | n + 1, x2, σ =>
    wp_Text_size σ (fun r4 σ5 =>
     ((r4 ≤ x2 → L_Reader_readText_169 post σ5) ∧
     (¬ (r4 ≤ x2) → wp_Text_size σ5 (fun r6 σ7 =>
     ((r6 ≤ (k_at σ5) → L_Reader_readText_169 post σ7) ∧
     (¬ (r6 ≤ (k_at σ5)) → wp_Text_letterAt (k_at σ7) σ7 (fun r8 σ9 =>
     ((¬ r8 = 32 → ((¬ r8 = 35 → ((¬ r8 = 10 → wp_Text_joinsLinesAt (k_at σ9) σ9 (fun r10 σ11 =>
     ((r10 = 0 → wp_Reader_passToken σ11 (fun r12 σ13 =>
     ((¬ r12 = 0 → L_Reader_readText_163 post (fun x2 σ => L_Reader_readText_21 post  n x2 σ) x2 σ13) ∧
     (r12 = 0 → post (k_at σ13) σ13)))) ∧
     (¬ (r10 = 0) → (∀ σ14, σ14 = (k_at' σ11 ((k_at σ11) + 2)) →
     (∀ σ15, σ15 = (k_line' σ14 ((k_line σ14) + 1)) →
     L_Reader_readText_163 post (fun x2 σ => L_Reader_readText_21 post  n x2 σ) x2 σ15)))))) ∧
     (r8 = 10 → wp_Reader_passLineFeed σ9 (fun σ16 =>
     L_Reader_readText_163 post (fun x2 σ => L_Reader_readText_21 post  n x2 σ) x2 σ16)))) ∧
     (r8 = 35 → wp_Text_lineFeedFrom (k_at σ9) σ9 (fun r17 σ18 =>
     (∀ σ19, σ19 = (k_at' σ18 r17) →
     L_Reader_readText_163 post (fun x2 σ => L_Reader_readText_21 post  n x2 σ) x2 σ19))))) ∧
     (r8 = 32 → (∀ σ20, σ20 = (k_at' σ9 ((k_at σ9) + 1)) →
     L_Reader_readText_163 post (fun x2 σ => L_Reader_readText_21 post  n x2 σ) x2 σ20))))))))))
def wp_Reader_readText (σ : KS) (post : Int32 → KS → Prop) : Prop :=
 wp_Text_firstBadOctet σ (fun r1 σ2 =>
 ((r1 = (-1) → wp_Reader_begin σ2 (fun σ3 =>
 ∃ n, L_Reader_readText_21 post n 0 σ3)) ∧
 (¬ (r1 = (-1)) → post r1 σ2)))
def wp_Desk_feed (a1 : Int32) (a2 : Int32) (a3 : Int32) (a4 : Int32) (a5 : Int32) (σ : KS) (post : Int32 → KS → Prop) (px : String → KS → Prop) : Prop :=
 wp_Text_hasRoom σ (fun r1 σ2 =>
 ((¬ r1 = 0 → wp_Text_addWord a1 σ2 (fun σ3 =>
 wp_Text_addWord a2 σ3 (fun σ4 =>
 wp_Text_addWord a3 σ4 (fun σ5 =>
 wp_Text_addWord a4 σ5 (fun σ6 =>
 wp_Text_addWord a5 σ6 (fun σ7 =>
 wp_Text_fedOctets σ7 (fun r8 σ9 =>
 post r8 σ9))))))) ∧
 (r1 = 0 → px "java/lang/IndexOutOfBoundsException" σ2)))
def L_Desk_scan_22 (px : String → KS → Prop) (post : Int32 → KS → Prop) (σ : KS) : Prop :=
 px "java/lang/IndexOutOfBoundsException" σ
def wp_Desk_scan (a1 : Int32) (σ : KS) (post : Int32 → KS → Prop) (px : String → KS → Prop) : Prop :=
 ((a1 < 0 → L_Desk_scan_22 px post σ) ∧
 (¬ (a1 < 0) → ((4096 < a1 → L_Desk_scan_22 px post σ) ∧
 (¬ (4096 < a1) → wp_Text_fedOctets σ (fun r1 σ2 =>
 ((a1 ≤ r1 → wp_Tokens_clear σ2 (fun σ3 =>
 wp_Text_cutTo a1 σ3 (fun σ4 =>
 wp_Reader_readText σ4 (fun r5 σ6 =>
 (∀ σ7, σ7 = (k_wr' σ6 r5) →
 wp_Text_clear σ7 (fun σ8 =>
 (((k_wr σ8) = (-1) → wp_Tokens_size σ8 (fun r9 σ10 =>
 post r9 σ10)) ∧
 (¬ ((k_wr σ8) = (-1)) → wp_Tokens_clear σ8 (fun σ11 =>
 px "java/lang/IllegalArgumentException" σ11))))))))) ∧
 (¬ (a1 ≤ r1) → L_Desk_scan_22 px post σ2)))))))
def wp_Desk_wrong (σ : KS) (post : Int32 → KS → Prop) : Prop :=
 post (k_wr σ) σ
def L_Desk_token_34 (px : String → KS → Prop) (post : Int32 → KS → Prop) (σ : KS) : Prop :=
 px "java/lang/IndexOutOfBoundsException" σ
def L_Desk_token_9 (px : String → KS → Prop) (post : Int32 → KS → Prop) (σ : KS) : Prop :=
 px "java/lang/IllegalArgumentException" σ
def wp_Desk_token (a1 : Int32) (a2 : Int32) (σ : KS) (post : Int32 → KS → Prop) (px : String → KS → Prop) : Prop :=
 ((a2 < 0 → L_Desk_token_9 px post σ) ∧
 (¬ (a2 < 0) → ((a2 < 4 → ((a1 < 0 → L_Desk_token_34 px post σ) ∧
 (¬ (a1 < 0) → wp_Tokens_size σ (fun r1 σ2 =>
 ((a1 < r1 → wp_Tokens_part a1 a2 σ2 (fun r3 σ4 =>
 post r3 σ4)) ∧
 (¬ (a1 < r1) → L_Desk_token_34 px post σ2)))))) ∧
 (¬ (a2 < 4) → L_Desk_token_9 px post σ))))
def wp_Desk_many (σ : KS) (post : Int32 → KS → Prop) : Prop :=
 wp_Tokens_size σ (fun r1 σ2 =>
 post r1 σ2)
