/-! THE LAW, by program. -/
def lp_law_18 (len : Nat) (xs : Nat → Int32) : Nat → Int32 → mS → Option Int32 × Int32 × mS
  | 0, v3, s => (none, v3, s)
  | n + 1, v3, s => (if ((Int32.ofNat len) - 6) < v3 then (none, v3, s) else (if ((xs (ix v3)) &&& 63) = 0 then (mq_let (f_G_coal (xs (ix (v3 + 1))) (xs (ix (v3 + 2))) (xs (ix (v3 + 3))) (xs (ix (v3 + 4))) s) (fun (x10 : Int32 × mS) => (mq_let (f_M_coal (xs (ix (v3 + 1))) (xs (ix (v3 + 2))) (xs (ix (v3 + 3))) (xs (ix (v3 + 4))) x10.2) (fun (x11 : Int32 × mS) => (if x10.1 = x11.1 then (lp_law_18 len xs n (v3 + 6) x11.2) else (some (0 : Int32), v3, x11.2)))))) else (if ((xs (ix v3)) &&& 63) = 1 then (mq_let (f_G_buy (xs (ix (v3 + 1))) (xs (ix (v3 + 2))) (xs (ix (v3 + 3))) s) (fun (x12 : Int32 × mS) => (mq_let (f_M_buy (xs (ix (v3 + 1))) (xs (ix (v3 + 2))) (xs (ix (v3 + 3))) x12.2) (fun (x13 : Int32 × mS) => (if x12.1 = x13.1 then (lp_law_18 len xs n (v3 + 6) x13.2) else (some (0 : Int32), v3, x13.2)))))) else (if ((xs (ix v3)) &&& 63) = 2 then (mq_let (f_G_bench s) (fun (x14 : Int32 × mS) => (mq_let (f_M_bench x14.2) (fun (x15 : Int32 × mS) => (if x14.1 = x15.1 then (lp_law_18 len xs n (v3 + 6) x15.2) else (some (0 : Int32), v3, x15.2)))))) else (if ((xs (ix v3)) &&& 63) = 3 then (mq_let (f_G_charge (xs (ix (v3 + 1))) (xs (ix (v3 + 2))) (xs (ix (v3 + 3))) s) (fun (x16 : Int32 × mS) => (mq_let (f_M_charge (xs (ix (v3 + 1))) (xs (ix (v3 + 2))) (xs (ix (v3 + 3))) x16.2) (fun (x17 : Int32 × mS) => (if x16.1 = x17.1 then (lp_law_18 len xs n (v3 + 6) x17.2) else (some (0 : Int32), v3, x17.2)))))) else (if ((xs (ix v3)) &&& 63) = 4 then (mq_let (f_G_hands (xs (ix (v3 + 1))) s) (fun (x18 : Int32 × mS) => (mq_let (f_M_hands (xs (ix (v3 + 1))) x18.2) (fun (x19 : Int32 × mS) => (if x18.1 = x19.1 then (lp_law_18 len xs n (v3 + 6) x19.2) else (some (0 : Int32), v3, x19.2)))))) else (if ((xs (ix v3)) &&& 63) = 5 then (mq_let (f_G_holder (xs (ix (v3 + 1))) s) (fun (x20 : Int32 × mS) => (mq_let (f_M_holder (xs (ix (v3 + 1))) x20.2) (fun (x21 : Int32 × mS) => (if x20.1 = x21.1 then (lp_law_18 len xs n (v3 + 6) x21.2) else (some (0 : Int32), v3, x21.2)))))) else (if ((xs (ix v3)) &&& 63) = 6 then (mq_let (f_G_round (xs (ix (v3 + 1))) (xs (ix (v3 + 2))) s) (fun (x22 : Int32 × mS) => (mq_let (f_M_round (xs (ix (v3 + 1))) (xs (ix (v3 + 2))) x22.2) (fun (x23 : Int32 × mS) => (if x22.1 = x23.1 then (lp_law_18 len xs n (v3 + 6) x23.2) else (some (0 : Int32), v3, x23.2)))))) else (if ((xs (ix v3)) &&& 63) = 7 then (mq_let (f_G_fog (xs (ix (v3 + 1))) (xs (ix (v3 + 2))) s) (fun (x24 : Int32 × mS) => (mq_let (f_M_fog (xs (ix (v3 + 1))) (xs (ix (v3 + 2))) x24.2) (fun (x25 : Int32 × mS) => (if x24.1 = x25.1 then (lp_law_18 len xs n (v3 + 6) x25.2) else (some (0 : Int32), v3, x25.2)))))) else (if ((xs (ix v3)) &&& 63) = 8 then (mq_let (f_G_gate (xs (ix (v3 + 1))) s) (fun (x26 : Int32 × mS) => (mq_let (f_M_gate (xs (ix (v3 + 1))) x26.2) (fun (x27 : Int32 × mS) => (if x26.1 = x27.1 then (lp_law_18 len xs n (v3 + 6) x27.2) else (some (0 : Int32), v3, x27.2)))))) else (if ((xs (ix v3)) &&& 63) = 9 then (mq_let (f_G_node (xs (ix (v3 + 1))) (xs (ix (v3 + 2))) (xs (ix (v3 + 3))) s) (fun (x28 : Int32 × mS) => (mq_let (f_M_node (xs (ix (v3 + 1))) (xs (ix (v3 + 2))) (xs (ix (v3 + 3))) x28.2) (fun (x29 : Int32 × mS) => (if x28.1 = x29.1 then (lp_law_18 len xs n (v3 + 6) x29.2) else (some (0 : Int32), v3, x29.2)))))) else (if ((xs (ix v3)) &&& 63) = 10 then (mq_let (if (xs (ix (v3 + 2))) = 0 then (0 : Int32) else (1 : Int32)) (fun (x30 : Int32) => (mq_let (f_G_water (xs (ix (v3 + 1))) x30 s) (fun (x31 : Int32 × mS) => (mq_let (if (xs (ix (v3 + 2))) = 0 then (0 : Int32) else (1 : Int32)) (fun (x32 : Int32) => (mq_let (f_M_water (xs (ix (v3 + 1))) x32 x31.2) (fun (x33 : Int32 × mS) => (if x31.1 = x33.1 then (lp_law_18 len xs n (v3 + 6) x33.2) else (some (0 : Int32), v3, x33.2)))))))))) else (if ((xs (ix v3)) &&& 63) = 11 then (mq_let (f_G_thing (xs (ix (v3 + 1))) (xs (ix (v3 + 2))) (xs (ix (v3 + 3))) (xs (ix (v3 + 4))) s) (fun (x34 : Int32 × mS) => (mq_let (f_M_thing (xs (ix (v3 + 1))) (xs (ix (v3 + 2))) (xs (ix (v3 + 3))) (xs (ix (v3 + 4))) x34.2) (fun (x35 : Int32 × mS) => (if x34.1 = x35.1 then (lp_law_18 len xs n (v3 + 6) x35.2) else (some (0 : Int32), v3, x35.2)))))) else (if ((xs (ix v3)) &&& 63) = 12 then (mq_let (if (xs (ix (v3 + 2))) = 0 then (0 : Int32) else (1 : Int32)) (fun (x36 : Int32) => (mq_let (f_G_cut (xs (ix (v3 + 1))) x36 s) (fun (x37 : Int32 × mS) => (mq_let (if (xs (ix (v3 + 2))) = 0 then (0 : Int32) else (1 : Int32)) (fun (x38 : Int32) => (mq_let (f_M_cut (xs (ix (v3 + 1))) x38 x37.2) (fun (x39 : Int32 × mS) => (if x37.1 = x39.1 then (lp_law_18 len xs n (v3 + 6) x39.2) else (some (0 : Int32), v3, x39.2)))))))))) else (if ((xs (ix v3)) &&& 63) = 13 then (mq_let (f_G_coin (xs (ix (v3 + 1))) (xs (ix (v3 + 2))) s) (fun (x40 : Int32 × mS) => (mq_let (f_M_coin (xs (ix (v3 + 1))) (xs (ix (v3 + 2))) x40.2) (fun (x41 : Int32 × mS) => (if x40.1 = x41.1 then (lp_law_18 len xs n (v3 + 6) x41.2) else (some (0 : Int32), v3, x41.2)))))) else (if ((xs (ix v3)) &&& 63) = 14 then (mq_let (if (xs (ix (v3 + 2))) = 0 then (0 : Int32) else (1 : Int32)) (fun (x42 : Int32) => (mq_let (f_G_frost (xs (ix (v3 + 1))) x42 s) (fun (x43 : Int32 × mS) => (mq_let (if (xs (ix (v3 + 2))) = 0 then (0 : Int32) else (1 : Int32)) (fun (x44 : Int32) => (mq_let (f_M_frost (xs (ix (v3 + 1))) x44 x43.2) (fun (x45 : Int32 × mS) => (if x43.1 = x45.1 then (lp_law_18 len xs n (v3 + 6) x45.2) else (some (0 : Int32), v3, x45.2)))))))))) else (if ((xs (ix v3)) &&& 63) = 15 then (mq_let (f_G_steps (xs (ix (v3 + 1))) s) (fun (x46 : Int32 × mS) => (mq_let (f_M_steps (xs (ix (v3 + 1))) x46.2) (fun (x47 : Int32 × mS) => (if x46.1 = x47.1 then (lp_law_18 len xs n (v3 + 6) x47.2) else (some (0 : Int32), v3, x47.2)))))) else (if ((xs (ix v3)) &&& 63) = 16 then (mq_let (f_G_read (xs (ix (v3 + 1))) s) (fun (x48 : Int32 × mS) => (mq_let (f_M_read (xs (ix (v3 + 1))) x48.2) (fun (x49 : Int32 × mS) => (if x48.1 = x49.1 then (lp_law_18 len xs n (v3 + 6) x49.2) else (some (0 : Int32), v3, x49.2)))))) else (if ((xs (ix v3)) &&& 63) = 17 then (mq_let (f_G_right (xs (ix (v3 + 1))) (xs (ix (v3 + 2))) (xs (ix (v3 + 3))) s) (fun (x50 : Int32 × mS) => (mq_let (f_M_right (xs (ix (v3 + 1))) (xs (ix (v3 + 2))) (xs (ix (v3 + 3))) x50.2) (fun (x51 : Int32 × mS) => (if x50.1 = x51.1 then (lp_law_18 len xs n (v3 + 6) x51.2) else (some (0 : Int32), v3, x51.2)))))) else (if ((xs (ix v3)) &&& 63) = 18 then (mq_let (f_G_bill (xs (ix (v3 + 1))) (xs (ix (v3 + 2))) (xs (ix (v3 + 3))) (xs (ix (v3 + 4))) s) (fun (x52 : Int64 × mS) => (mq_let (f_M_bill (xs (ix (v3 + 1))) (xs (ix (v3 + 2))) (xs (ix (v3 + 3))) (xs (ix (v3 + 4))) x52.2) (fun (x53 : Int64 × mS) => (if (lg_cmp x52.1 x53.1) = 0 then (lp_law_18 len xs n (v3 + 6) x53.2) else (some (0 : Int32), v3, x53.2)))))) else (if ((xs (ix v3)) &&& 63) = 19 then (mq_let (f_G_sell (xs (ix (v3 + 1))) (xs (ix (v3 + 2))) s) (fun (x54 : Int32 × mS) => (mq_let (f_M_sell (xs (ix (v3 + 1))) (xs (ix (v3 + 2))) x54.2) (fun (x55 : Int32 × mS) => (if x54.1 = x55.1 then (lp_law_18 len xs n (v3 + 6) x55.2) else (some (0 : Int32), v3, x55.2)))))) else (if ((xs (ix v3)) &&& 63) = 20 then (mq_let (f_G_feed (xs (ix (v3 + 1))) (xs (ix (v3 + 2))) (xs (ix (v3 + 3))) (xs (ix (v3 + 4))) (xs (ix (v3 + 5))) s) (fun (x56 : Int32 × mS) => (mq_let (f_M_feed (xs (ix (v3 + 1))) (xs (ix (v3 + 2))) (xs (ix (v3 + 3))) (xs (ix (v3 + 4))) (xs (ix (v3 + 5))) x56.2) (fun (x57 : Int32 × mS) => (if x56.1 = x57.1 then (lp_law_18 len xs n (v3 + 6) x57.2) else (some (0 : Int32), v3, x57.2)))))) else (if ((xs (ix v3)) &&& 63) = 21 then (mq_let (f_G_end (xs (ix (v3 + 1))) s) (fun (x58 : Int32 × mS) => (mq_let (f_M_end (xs (ix (v3 + 1))) x58.2) (fun (x59 : Int32 × mS) => (if x58.1 = x59.1 then (lp_law_18 len xs n (v3 + 6) x59.2) else (some (0 : Int32), v3, x59.2)))))) else (if ((xs (ix v3)) &&& 63) = 22 then (mq_let (f_G_act (xs (ix (v3 + 1))) (xs (ix (v3 + 2))) s) (fun (x60 : Int32 × mS) => (mq_let (f_M_act (xs (ix (v3 + 1))) (xs (ix (v3 + 2))) x60.2) (fun (x61 : Int32 × mS) => (if x60.1 = x61.1 then (lp_law_18 len xs n (v3 + 6) x61.2) else (some (0 : Int32), v3, x61.2)))))) else (if ((xs (ix v3)) &&& 63) = 23 then (mq_let (f_G_fault (xs (ix (v3 + 1))) s) (fun (x62 : Int32) => (mq_let (f_M_fault (xs (ix (v3 + 1))) s) (fun (x63 : Int32) => (if x62 = x63 then (lp_law_18 len xs n (v3 + 6) s) else (some (0 : Int32), v3, s)))))) else (if ((xs (ix v3)) &&& 63) = 24 then (mq_let (f_G_due (xs (ix (v3 + 1))) (xs (ix (v3 + 2))) (xs (ix (v3 + 3))) (xs (ix (v3 + 4))) s) (fun (x64 : Int32 × mS) => (mq_let (f_M_due (xs (ix (v3 + 1))) (xs (ix (v3 + 2))) (xs (ix (v3 + 3))) (xs (ix (v3 + 4))) x64.2) (fun (x65 : Int32 × mS) => (if x64.1 = x65.1 then (lp_law_18 len xs n (v3 + 6) x65.2) else (some (0 : Int32), v3, x65.2)))))) else (if ((xs (ix v3)) &&& 63) = 25 then (mq_let (f_G_tries (xs (ix (v3 + 1))) s) (fun (x66 : Int32 × mS) => (mq_let (f_M_tries (xs (ix (v3 + 1))) x66.2) (fun (x67 : Int32 × mS) => (if x66.1 = x67.1 then (lp_law_18 len xs n (v3 + 6) x67.2) else (some (0 : Int32), v3, x67.2)))))) else (if ((xs (ix v3)) &&& 63) = 26 then (mq_let (f_G_share (xs (ix (v3 + 1))) s) (fun (x68 : Int64 × mS) => (mq_let (f_M_share (xs (ix (v3 + 1))) x68.2) (fun (x69 : Int64 × mS) => (if (lg_cmp x68.1 x69.1) = 0 then (lp_law_18 len xs n (v3 + 6) x69.2) else (some (0 : Int32), v3, x69.2)))))) else (if ((xs (ix v3)) &&& 63) = 27 then (mq_let (f_G_at (xs (ix (v3 + 1))) (xs (ix (v3 + 2))) s) (fun (x70 : Int32) => (mq_let (f_M_at (xs (ix (v3 + 1))) (xs (ix (v3 + 2))) s) (fun (x71 : Int32) => (if x70 = x71 then (lp_law_18 len xs n (v3 + 6) s) else (some (0 : Int32), v3, s)))))) else (if ((xs (ix v3)) &&& 63) = 28 then (mq_let (f_G_of (xs (ix (v3 + 1))) (xs (ix (v3 + 2))) s) (fun (x72 : Int32) => (mq_let (f_M_of (xs (ix (v3 + 1))) (xs (ix (v3 + 2))) s) (fun (x73 : Int32) => (if x72 = x73 then (lp_law_18 len xs n (v3 + 6) s) else (some (0 : Int32), v3, s)))))) else (if ((xs (ix v3)) &&& 63) = 29 then (mq_let (f_G_why (xs (ix (v3 + 1))) (xs (ix (v3 + 2))) s) (fun (x74 : Int32 × mS) => (mq_let (f_M_why (xs (ix (v3 + 1))) (xs (ix (v3 + 2))) x74.2) (fun (x75 : Int32) => (if x74.1 = x75 then (lp_law_18 len xs n (v3 + 6) x74.2) else (some (0 : Int32), v3, x74.2)))))) else (if ((xs (ix v3)) &&& 63) = 30 then (mq_let (f_G_best (xs (ix (v3 + 1))) (xs (ix (v3 + 2))) (xs (ix (v3 + 3))) s) (fun (x76 : Int32 × mS) => (mq_let (f_M_best (xs (ix (v3 + 1))) (xs (ix (v3 + 2))) (xs (ix (v3 + 3))) x76.2) (fun (x77 : Int32 × mS) => (if x76.1 = x77.1 then (lp_law_18 len xs n (v3 + 6) x77.2) else (some (0 : Int32), v3, x77.2)))))) else (if ((xs (ix v3)) &&& 63) = 31 then (mq_let (f_G_last s) (fun (x78 : Int32) => (mq_let (f_M_last s) (fun (x79 : Int32) => (if x78 = x79 then (lp_law_18 len xs n (v3 + 6) s) else (some (0 : Int32), v3, s)))))) else (if ((xs (ix v3)) &&& 63) = 32 then (mq_let (f_G_sees (xs (ix (v3 + 1))) (xs (ix (v3 + 2))) s) (fun (x80 : Int32 × mS) => (mq_let (f_M_sees (xs (ix (v3 + 1))) (xs (ix (v3 + 2))) x80.2) (fun (x81 : Int32 × mS) => (if x80.1 = x81.1 then (lp_law_18 len xs n (v3 + 6) x81.2) else (some (0 : Int32), v3, x81.2)))))) else (if ((xs (ix v3)) &&& 63) = 33 then (mq_let (f_G_find (xs (ix (v3 + 1))) s) (fun (x82 : Int32 × mS) => (mq_let (f_M_find (xs (ix (v3 + 1))) x82.2) (fun (x83 : Int32 × mS) => (if x82.1 = x83.1 then (lp_law_18 len xs n (v3 + 6) x83.2) else (some (0 : Int32), v3, x83.2)))))) else (if ((xs (ix v3)) &&& 63) = 34 then (mq_let (f_G_work (xs (ix (v3 + 1))) (xs (ix (v3 + 2))) (xs (ix (v3 + 3))) s) (fun (x84 : Int32 × mS) => (mq_let (f_M_work (xs (ix (v3 + 1))) (xs (ix (v3 + 2))) (xs (ix (v3 + 3))) x84.2) (fun (x85 : Int32 × mS) => (if x84.1 = x85.1 then (lp_law_18 len xs n (v3 + 6) x85.2) else (some (0 : Int32), v3, x85.2)))))) else (if ((xs (ix v3)) &&& 63) = 35 then (mq_let (f_G_choice (xs (ix (v3 + 1))) (xs (ix (v3 + 2))) (xs (ix (v3 + 3))) s) (fun (x86 : Int32 × mS) => (mq_let (f_M_choice (xs (ix (v3 + 1))) (xs (ix (v3 + 2))) (xs (ix (v3 + 3))) x86.2) (fun (x87 : Int32 × mS) => (if x86.1 = x87.1 then (lp_law_18 len xs n (v3 + 6) x87.2) else (some (0 : Int32), v3, x87.2)))))) else (if ((xs (ix v3)) &&& 63) = 36 then (mq_let (f_G_look (xs (ix (v3 + 1))) s) (fun (x88 : Int64) => (mq_let (f_M_look (xs (ix (v3 + 1))) s) (fun (x89 : Int64) => (if (lg_cmp x88 x89) = 0 then (lp_law_18 len xs n (v3 + 6) s) else (some (0 : Int32), v3, s)))))) else (lp_law_18 len xs n (v3 + 6) s)))))))))))))))))))))))))))))))))))))))
def okl_law_18 (len : Nat) (xs : Nat → Int32) : Nat → Int32 → mS → Prop
  | 0, v3, s => False
  | n + 1, v3, s => (if ((Int32.ofNat len) - 6) < v3 then True else (mm_inb v3 len = true ∧ (if ((xs (ix v3)) &&& 63) = 0 then (mm_inb (v3 + 1) len = true ∧ (mm_inb (v3 + 2) len = true ∧ (mm_inb (v3 + 3) len = true ∧ (mm_inb (v3 + 4) len = true ∧ (ok_G_coal (xs (ix (v3 + 1))) (xs (ix (v3 + 2))) (xs (ix (v3 + 3))) (xs (ix (v3 + 4))) s ∧ mq_letP (f_G_coal (xs (ix (v3 + 1))) (xs (ix (v3 + 2))) (xs (ix (v3 + 3))) (xs (ix (v3 + 4))) s) (fun (x10 : Int32 × mS) => (mm_inb (v3 + 1) len = true ∧ (mm_inb (v3 + 2) len = true ∧ (mm_inb (v3 + 3) len = true ∧ (mm_inb (v3 + 4) len = true ∧ (ok_M_coal (xs (ix (v3 + 1))) (xs (ix (v3 + 2))) (xs (ix (v3 + 3))) (xs (ix (v3 + 4))) x10.2 ∧ mq_letP (f_M_coal (xs (ix (v3 + 1))) (xs (ix (v3 + 2))) (xs (ix (v3 + 3))) (xs (ix (v3 + 4))) x10.2) (fun (x11 : Int32 × mS) => (if x10.1 = x11.1 then (okl_law_18 len xs n (v3 + 6) x11.2) else True))))))))))))) else (if ((xs (ix v3)) &&& 63) = 1 then (mm_inb (v3 + 1) len = true ∧ (mm_inb (v3 + 2) len = true ∧ (mm_inb (v3 + 3) len = true ∧ (ok_G_buy (xs (ix (v3 + 1))) (xs (ix (v3 + 2))) (xs (ix (v3 + 3))) s ∧ mq_letP (f_G_buy (xs (ix (v3 + 1))) (xs (ix (v3 + 2))) (xs (ix (v3 + 3))) s) (fun (x12 : Int32 × mS) => (mm_inb (v3 + 1) len = true ∧ (mm_inb (v3 + 2) len = true ∧ (mm_inb (v3 + 3) len = true ∧ (ok_M_buy (xs (ix (v3 + 1))) (xs (ix (v3 + 2))) (xs (ix (v3 + 3))) x12.2 ∧ mq_letP (f_M_buy (xs (ix (v3 + 1))) (xs (ix (v3 + 2))) (xs (ix (v3 + 3))) x12.2) (fun (x13 : Int32 × mS) => (if x12.1 = x13.1 then (okl_law_18 len xs n (v3 + 6) x13.2) else True))))))))))) else (if ((xs (ix v3)) &&& 63) = 2 then (True ∧ mq_letP (f_G_bench s) (fun (x14 : Int32 × mS) => (True ∧ mq_letP (f_M_bench x14.2) (fun (x15 : Int32 × mS) => (if x14.1 = x15.1 then (okl_law_18 len xs n (v3 + 6) x15.2) else True))))) else (if ((xs (ix v3)) &&& 63) = 3 then (mm_inb (v3 + 1) len = true ∧ (mm_inb (v3 + 2) len = true ∧ (mm_inb (v3 + 3) len = true ∧ (ok_G_charge (xs (ix (v3 + 1))) (xs (ix (v3 + 2))) (xs (ix (v3 + 3))) s ∧ mq_letP (f_G_charge (xs (ix (v3 + 1))) (xs (ix (v3 + 2))) (xs (ix (v3 + 3))) s) (fun (x16 : Int32 × mS) => (mm_inb (v3 + 1) len = true ∧ (mm_inb (v3 + 2) len = true ∧ (mm_inb (v3 + 3) len = true ∧ (ok_M_charge (xs (ix (v3 + 1))) (xs (ix (v3 + 2))) (xs (ix (v3 + 3))) x16.2 ∧ mq_letP (f_M_charge (xs (ix (v3 + 1))) (xs (ix (v3 + 2))) (xs (ix (v3 + 3))) x16.2) (fun (x17 : Int32 × mS) => (if x16.1 = x17.1 then (okl_law_18 len xs n (v3 + 6) x17.2) else True))))))))))) else (if ((xs (ix v3)) &&& 63) = 4 then (mm_inb (v3 + 1) len = true ∧ (True ∧ mq_letP (f_G_hands (xs (ix (v3 + 1))) s) (fun (x18 : Int32 × mS) => (mm_inb (v3 + 1) len = true ∧ (True ∧ mq_letP (f_M_hands (xs (ix (v3 + 1))) x18.2) (fun (x19 : Int32 × mS) => (if x18.1 = x19.1 then (okl_law_18 len xs n (v3 + 6) x19.2) else True))))))) else (if ((xs (ix v3)) &&& 63) = 5 then (mm_inb (v3 + 1) len = true ∧ (True ∧ mq_letP (f_G_holder (xs (ix (v3 + 1))) s) (fun (x20 : Int32 × mS) => (mm_inb (v3 + 1) len = true ∧ (True ∧ mq_letP (f_M_holder (xs (ix (v3 + 1))) x20.2) (fun (x21 : Int32 × mS) => (if x20.1 = x21.1 then (okl_law_18 len xs n (v3 + 6) x21.2) else True))))))) else (if ((xs (ix v3)) &&& 63) = 6 then (mm_inb (v3 + 1) len = true ∧ (mm_inb (v3 + 2) len = true ∧ (True ∧ mq_letP (f_G_round (xs (ix (v3 + 1))) (xs (ix (v3 + 2))) s) (fun (x22 : Int32 × mS) => (mm_inb (v3 + 1) len = true ∧ (mm_inb (v3 + 2) len = true ∧ (True ∧ mq_letP (f_M_round (xs (ix (v3 + 1))) (xs (ix (v3 + 2))) x22.2) (fun (x23 : Int32 × mS) => (if x22.1 = x23.1 then (okl_law_18 len xs n (v3 + 6) x23.2) else True))))))))) else (if ((xs (ix v3)) &&& 63) = 7 then (mm_inb (v3 + 1) len = true ∧ (mm_inb (v3 + 2) len = true ∧ (ok_G_fog (xs (ix (v3 + 1))) (xs (ix (v3 + 2))) s ∧ mq_letP (f_G_fog (xs (ix (v3 + 1))) (xs (ix (v3 + 2))) s) (fun (x24 : Int32 × mS) => (mm_inb (v3 + 1) len = true ∧ (mm_inb (v3 + 2) len = true ∧ (ok_M_fog (xs (ix (v3 + 1))) (xs (ix (v3 + 2))) x24.2 ∧ mq_letP (f_M_fog (xs (ix (v3 + 1))) (xs (ix (v3 + 2))) x24.2) (fun (x25 : Int32 × mS) => (if x24.1 = x25.1 then (okl_law_18 len xs n (v3 + 6) x25.2) else True))))))))) else (if ((xs (ix v3)) &&& 63) = 8 then (mm_inb (v3 + 1) len = true ∧ (True ∧ mq_letP (f_G_gate (xs (ix (v3 + 1))) s) (fun (x26 : Int32 × mS) => (mm_inb (v3 + 1) len = true ∧ (True ∧ mq_letP (f_M_gate (xs (ix (v3 + 1))) x26.2) (fun (x27 : Int32 × mS) => (if x26.1 = x27.1 then (okl_law_18 len xs n (v3 + 6) x27.2) else True))))))) else (if ((xs (ix v3)) &&& 63) = 9 then (mm_inb (v3 + 1) len = true ∧ (mm_inb (v3 + 2) len = true ∧ (mm_inb (v3 + 3) len = true ∧ (ok_G_node (xs (ix (v3 + 1))) (xs (ix (v3 + 2))) (xs (ix (v3 + 3))) s ∧ mq_letP (f_G_node (xs (ix (v3 + 1))) (xs (ix (v3 + 2))) (xs (ix (v3 + 3))) s) (fun (x28 : Int32 × mS) => (mm_inb (v3 + 1) len = true ∧ (mm_inb (v3 + 2) len = true ∧ (mm_inb (v3 + 3) len = true ∧ (ok_M_node (xs (ix (v3 + 1))) (xs (ix (v3 + 2))) (xs (ix (v3 + 3))) x28.2 ∧ mq_letP (f_M_node (xs (ix (v3 + 1))) (xs (ix (v3 + 2))) (xs (ix (v3 + 3))) x28.2) (fun (x29 : Int32 × mS) => (if x28.1 = x29.1 then (okl_law_18 len xs n (v3 + 6) x29.2) else True))))))))))) else (if ((xs (ix v3)) &&& 63) = 10 then (mm_inb (v3 + 1) len = true ∧ (mm_inb (v3 + 2) len = true ∧ (True ∧ mq_letP (if (xs (ix (v3 + 2))) = 0 then (0 : Int32) else (1 : Int32)) (fun (x30 : Int32) => (ok_G_water (xs (ix (v3 + 1))) x30 s ∧ mq_letP (f_G_water (xs (ix (v3 + 1))) x30 s) (fun (x31 : Int32 × mS) => (mm_inb (v3 + 1) len = true ∧ (mm_inb (v3 + 2) len = true ∧ (True ∧ mq_letP (if (xs (ix (v3 + 2))) = 0 then (0 : Int32) else (1 : Int32)) (fun (x32 : Int32) => (ok_M_water (xs (ix (v3 + 1))) x32 x31.2 ∧ mq_letP (f_M_water (xs (ix (v3 + 1))) x32 x31.2) (fun (x33 : Int32 × mS) => (if x31.1 = x33.1 then (okl_law_18 len xs n (v3 + 6) x33.2) else True))))))))))))) else (if ((xs (ix v3)) &&& 63) = 11 then (mm_inb (v3 + 1) len = true ∧ (mm_inb (v3 + 2) len = true ∧ (mm_inb (v3 + 3) len = true ∧ (mm_inb (v3 + 4) len = true ∧ (ok_G_thing (xs (ix (v3 + 1))) (xs (ix (v3 + 2))) (xs (ix (v3 + 3))) (xs (ix (v3 + 4))) s ∧ mq_letP (f_G_thing (xs (ix (v3 + 1))) (xs (ix (v3 + 2))) (xs (ix (v3 + 3))) (xs (ix (v3 + 4))) s) (fun (x34 : Int32 × mS) => (mm_inb (v3 + 1) len = true ∧ (mm_inb (v3 + 2) len = true ∧ (mm_inb (v3 + 3) len = true ∧ (mm_inb (v3 + 4) len = true ∧ (ok_M_thing (xs (ix (v3 + 1))) (xs (ix (v3 + 2))) (xs (ix (v3 + 3))) (xs (ix (v3 + 4))) x34.2 ∧ mq_letP (f_M_thing (xs (ix (v3 + 1))) (xs (ix (v3 + 2))) (xs (ix (v3 + 3))) (xs (ix (v3 + 4))) x34.2) (fun (x35 : Int32 × mS) => (if x34.1 = x35.1 then (okl_law_18 len xs n (v3 + 6) x35.2) else True))))))))))))) else (if ((xs (ix v3)) &&& 63) = 12 then (mm_inb (v3 + 1) len = true ∧ (mm_inb (v3 + 2) len = true ∧ (True ∧ mq_letP (if (xs (ix (v3 + 2))) = 0 then (0 : Int32) else (1 : Int32)) (fun (x36 : Int32) => (ok_G_cut (xs (ix (v3 + 1))) x36 s ∧ mq_letP (f_G_cut (xs (ix (v3 + 1))) x36 s) (fun (x37 : Int32 × mS) => (mm_inb (v3 + 1) len = true ∧ (mm_inb (v3 + 2) len = true ∧ (True ∧ mq_letP (if (xs (ix (v3 + 2))) = 0 then (0 : Int32) else (1 : Int32)) (fun (x38 : Int32) => (ok_M_cut (xs (ix (v3 + 1))) x38 x37.2 ∧ mq_letP (f_M_cut (xs (ix (v3 + 1))) x38 x37.2) (fun (x39 : Int32 × mS) => (if x37.1 = x39.1 then (okl_law_18 len xs n (v3 + 6) x39.2) else True))))))))))))) else (if ((xs (ix v3)) &&& 63) = 13 then (mm_inb (v3 + 1) len = true ∧ (mm_inb (v3 + 2) len = true ∧ (ok_G_coin (xs (ix (v3 + 1))) (xs (ix (v3 + 2))) s ∧ mq_letP (f_G_coin (xs (ix (v3 + 1))) (xs (ix (v3 + 2))) s) (fun (x40 : Int32 × mS) => (mm_inb (v3 + 1) len = true ∧ (mm_inb (v3 + 2) len = true ∧ (ok_M_coin (xs (ix (v3 + 1))) (xs (ix (v3 + 2))) x40.2 ∧ mq_letP (f_M_coin (xs (ix (v3 + 1))) (xs (ix (v3 + 2))) x40.2) (fun (x41 : Int32 × mS) => (if x40.1 = x41.1 then (okl_law_18 len xs n (v3 + 6) x41.2) else True))))))))) else (if ((xs (ix v3)) &&& 63) = 14 then (mm_inb (v3 + 1) len = true ∧ (mm_inb (v3 + 2) len = true ∧ (True ∧ mq_letP (if (xs (ix (v3 + 2))) = 0 then (0 : Int32) else (1 : Int32)) (fun (x42 : Int32) => (ok_G_frost (xs (ix (v3 + 1))) x42 s ∧ mq_letP (f_G_frost (xs (ix (v3 + 1))) x42 s) (fun (x43 : Int32 × mS) => (mm_inb (v3 + 1) len = true ∧ (mm_inb (v3 + 2) len = true ∧ (True ∧ mq_letP (if (xs (ix (v3 + 2))) = 0 then (0 : Int32) else (1 : Int32)) (fun (x44 : Int32) => (ok_M_frost (xs (ix (v3 + 1))) x44 x43.2 ∧ mq_letP (f_M_frost (xs (ix (v3 + 1))) x44 x43.2) (fun (x45 : Int32 × mS) => (if x43.1 = x45.1 then (okl_law_18 len xs n (v3 + 6) x45.2) else True))))))))))))) else (if ((xs (ix v3)) &&& 63) = 15 then (mm_inb (v3 + 1) len = true ∧ (ok_G_steps (xs (ix (v3 + 1))) s ∧ mq_letP (f_G_steps (xs (ix (v3 + 1))) s) (fun (x46 : Int32 × mS) => (mm_inb (v3 + 1) len = true ∧ (ok_M_steps (xs (ix (v3 + 1))) x46.2 ∧ mq_letP (f_M_steps (xs (ix (v3 + 1))) x46.2) (fun (x47 : Int32 × mS) => (if x46.1 = x47.1 then (okl_law_18 len xs n (v3 + 6) x47.2) else True))))))) else (if ((xs (ix v3)) &&& 63) = 16 then (mm_inb (v3 + 1) len = true ∧ (ok_G_read (xs (ix (v3 + 1))) s ∧ mq_letP (f_G_read (xs (ix (v3 + 1))) s) (fun (x48 : Int32 × mS) => (mm_inb (v3 + 1) len = true ∧ (ok_M_read (xs (ix (v3 + 1))) x48.2 ∧ mq_letP (f_M_read (xs (ix (v3 + 1))) x48.2) (fun (x49 : Int32 × mS) => (if x48.1 = x49.1 then (okl_law_18 len xs n (v3 + 6) x49.2) else True))))))) else (if ((xs (ix v3)) &&& 63) = 17 then (mm_inb (v3 + 1) len = true ∧ (mm_inb (v3 + 2) len = true ∧ (mm_inb (v3 + 3) len = true ∧ (ok_G_right (xs (ix (v3 + 1))) (xs (ix (v3 + 2))) (xs (ix (v3 + 3))) s ∧ mq_letP (f_G_right (xs (ix (v3 + 1))) (xs (ix (v3 + 2))) (xs (ix (v3 + 3))) s) (fun (x50 : Int32 × mS) => (mm_inb (v3 + 1) len = true ∧ (mm_inb (v3 + 2) len = true ∧ (mm_inb (v3 + 3) len = true ∧ (ok_M_right (xs (ix (v3 + 1))) (xs (ix (v3 + 2))) (xs (ix (v3 + 3))) x50.2 ∧ mq_letP (f_M_right (xs (ix (v3 + 1))) (xs (ix (v3 + 2))) (xs (ix (v3 + 3))) x50.2) (fun (x51 : Int32 × mS) => (if x50.1 = x51.1 then (okl_law_18 len xs n (v3 + 6) x51.2) else True))))))))))) else (if ((xs (ix v3)) &&& 63) = 18 then (mm_inb (v3 + 1) len = true ∧ (mm_inb (v3 + 2) len = true ∧ (mm_inb (v3 + 3) len = true ∧ (mm_inb (v3 + 4) len = true ∧ (ok_G_bill (xs (ix (v3 + 1))) (xs (ix (v3 + 2))) (xs (ix (v3 + 3))) (xs (ix (v3 + 4))) s ∧ mq_letP (f_G_bill (xs (ix (v3 + 1))) (xs (ix (v3 + 2))) (xs (ix (v3 + 3))) (xs (ix (v3 + 4))) s) (fun (x52 : Int64 × mS) => (mm_inb (v3 + 1) len = true ∧ (mm_inb (v3 + 2) len = true ∧ (mm_inb (v3 + 3) len = true ∧ (mm_inb (v3 + 4) len = true ∧ (ok_M_bill (xs (ix (v3 + 1))) (xs (ix (v3 + 2))) (xs (ix (v3 + 3))) (xs (ix (v3 + 4))) x52.2 ∧ mq_letP (f_M_bill (xs (ix (v3 + 1))) (xs (ix (v3 + 2))) (xs (ix (v3 + 3))) (xs (ix (v3 + 4))) x52.2) (fun (x53 : Int64 × mS) => (if (lg_cmp x52.1 x53.1) = 0 then (okl_law_18 len xs n (v3 + 6) x53.2) else True))))))))))))) else (if ((xs (ix v3)) &&& 63) = 19 then (mm_inb (v3 + 1) len = true ∧ (mm_inb (v3 + 2) len = true ∧ (True ∧ mq_letP (f_G_sell (xs (ix (v3 + 1))) (xs (ix (v3 + 2))) s) (fun (x54 : Int32 × mS) => (mm_inb (v3 + 1) len = true ∧ (mm_inb (v3 + 2) len = true ∧ (True ∧ mq_letP (f_M_sell (xs (ix (v3 + 1))) (xs (ix (v3 + 2))) x54.2) (fun (x55 : Int32 × mS) => (if x54.1 = x55.1 then (okl_law_18 len xs n (v3 + 6) x55.2) else True))))))))) else (if ((xs (ix v3)) &&& 63) = 20 then (mm_inb (v3 + 1) len = true ∧ (mm_inb (v3 + 2) len = true ∧ (mm_inb (v3 + 3) len = true ∧ (mm_inb (v3 + 4) len = true ∧ (mm_inb (v3 + 5) len = true ∧ (ok_G_feed (xs (ix (v3 + 1))) (xs (ix (v3 + 2))) (xs (ix (v3 + 3))) (xs (ix (v3 + 4))) (xs (ix (v3 + 5))) s ∧ mq_letP (f_G_feed (xs (ix (v3 + 1))) (xs (ix (v3 + 2))) (xs (ix (v3 + 3))) (xs (ix (v3 + 4))) (xs (ix (v3 + 5))) s) (fun (x56 : Int32 × mS) => (mm_inb (v3 + 1) len = true ∧ (mm_inb (v3 + 2) len = true ∧ (mm_inb (v3 + 3) len = true ∧ (mm_inb (v3 + 4) len = true ∧ (mm_inb (v3 + 5) len = true ∧ (ok_M_feed (xs (ix (v3 + 1))) (xs (ix (v3 + 2))) (xs (ix (v3 + 3))) (xs (ix (v3 + 4))) (xs (ix (v3 + 5))) x56.2 ∧ mq_letP (f_M_feed (xs (ix (v3 + 1))) (xs (ix (v3 + 2))) (xs (ix (v3 + 3))) (xs (ix (v3 + 4))) (xs (ix (v3 + 5))) x56.2) (fun (x57 : Int32 × mS) => (if x56.1 = x57.1 then (okl_law_18 len xs n (v3 + 6) x57.2) else True))))))))))))))) else (if ((xs (ix v3)) &&& 63) = 21 then (mm_inb (v3 + 1) len = true ∧ (True ∧ mq_letP (f_G_end (xs (ix (v3 + 1))) s) (fun (x58 : Int32 × mS) => (mm_inb (v3 + 1) len = true ∧ (True ∧ mq_letP (f_M_end (xs (ix (v3 + 1))) x58.2) (fun (x59 : Int32 × mS) => (if x58.1 = x59.1 then (okl_law_18 len xs n (v3 + 6) x59.2) else True))))))) else (if ((xs (ix v3)) &&& 63) = 22 then (mm_inb (v3 + 1) len = true ∧ (mm_inb (v3 + 2) len = true ∧ (ok_G_act (xs (ix (v3 + 1))) (xs (ix (v3 + 2))) s ∧ mq_letP (f_G_act (xs (ix (v3 + 1))) (xs (ix (v3 + 2))) s) (fun (x60 : Int32 × mS) => (mm_inb (v3 + 1) len = true ∧ (mm_inb (v3 + 2) len = true ∧ (ok_M_act (xs (ix (v3 + 1))) (xs (ix (v3 + 2))) x60.2 ∧ mq_letP (f_M_act (xs (ix (v3 + 1))) (xs (ix (v3 + 2))) x60.2) (fun (x61 : Int32 × mS) => (if x60.1 = x61.1 then (okl_law_18 len xs n (v3 + 6) x61.2) else True))))))))) else (if ((xs (ix v3)) &&& 63) = 23 then (mm_inb (v3 + 1) len = true ∧ (True ∧ mq_letP (f_G_fault (xs (ix (v3 + 1))) s) (fun (x62 : Int32) => (mm_inb (v3 + 1) len = true ∧ (True ∧ mq_letP (f_M_fault (xs (ix (v3 + 1))) s) (fun (x63 : Int32) => (if x62 = x63 then (okl_law_18 len xs n (v3 + 6) s) else True))))))) else (if ((xs (ix v3)) &&& 63) = 24 then (mm_inb (v3 + 1) len = true ∧ (mm_inb (v3 + 2) len = true ∧ (mm_inb (v3 + 3) len = true ∧ (mm_inb (v3 + 4) len = true ∧ (ok_G_due (xs (ix (v3 + 1))) (xs (ix (v3 + 2))) (xs (ix (v3 + 3))) (xs (ix (v3 + 4))) s ∧ mq_letP (f_G_due (xs (ix (v3 + 1))) (xs (ix (v3 + 2))) (xs (ix (v3 + 3))) (xs (ix (v3 + 4))) s) (fun (x64 : Int32 × mS) => (mm_inb (v3 + 1) len = true ∧ (mm_inb (v3 + 2) len = true ∧ (mm_inb (v3 + 3) len = true ∧ (mm_inb (v3 + 4) len = true ∧ (ok_M_due (xs (ix (v3 + 1))) (xs (ix (v3 + 2))) (xs (ix (v3 + 3))) (xs (ix (v3 + 4))) x64.2 ∧ mq_letP (f_M_due (xs (ix (v3 + 1))) (xs (ix (v3 + 2))) (xs (ix (v3 + 3))) (xs (ix (v3 + 4))) x64.2) (fun (x65 : Int32 × mS) => (if x64.1 = x65.1 then (okl_law_18 len xs n (v3 + 6) x65.2) else True))))))))))))) else (if ((xs (ix v3)) &&& 63) = 25 then (mm_inb (v3 + 1) len = true ∧ (ok_G_tries (xs (ix (v3 + 1))) s ∧ mq_letP (f_G_tries (xs (ix (v3 + 1))) s) (fun (x66 : Int32 × mS) => (mm_inb (v3 + 1) len = true ∧ (ok_M_tries (xs (ix (v3 + 1))) x66.2 ∧ mq_letP (f_M_tries (xs (ix (v3 + 1))) x66.2) (fun (x67 : Int32 × mS) => (if x66.1 = x67.1 then (okl_law_18 len xs n (v3 + 6) x67.2) else True))))))) else (if ((xs (ix v3)) &&& 63) = 26 then (mm_inb (v3 + 1) len = true ∧ (ok_G_share (xs (ix (v3 + 1))) s ∧ mq_letP (f_G_share (xs (ix (v3 + 1))) s) (fun (x68 : Int64 × mS) => (mm_inb (v3 + 1) len = true ∧ (ok_M_share (xs (ix (v3 + 1))) x68.2 ∧ mq_letP (f_M_share (xs (ix (v3 + 1))) x68.2) (fun (x69 : Int64 × mS) => (if (lg_cmp x68.1 x69.1) = 0 then (okl_law_18 len xs n (v3 + 6) x69.2) else True))))))) else (if ((xs (ix v3)) &&& 63) = 27 then (mm_inb (v3 + 1) len = true ∧ (mm_inb (v3 + 2) len = true ∧ (ok_G_at (xs (ix (v3 + 1))) (xs (ix (v3 + 2))) s ∧ mq_letP (f_G_at (xs (ix (v3 + 1))) (xs (ix (v3 + 2))) s) (fun (x70 : Int32) => (mm_inb (v3 + 1) len = true ∧ (mm_inb (v3 + 2) len = true ∧ (ok_M_at (xs (ix (v3 + 1))) (xs (ix (v3 + 2))) s ∧ mq_letP (f_M_at (xs (ix (v3 + 1))) (xs (ix (v3 + 2))) s) (fun (x71 : Int32) => (if x70 = x71 then (okl_law_18 len xs n (v3 + 6) s) else True))))))))) else (if ((xs (ix v3)) &&& 63) = 28 then (mm_inb (v3 + 1) len = true ∧ (mm_inb (v3 + 2) len = true ∧ (ok_G_of (xs (ix (v3 + 1))) (xs (ix (v3 + 2))) s ∧ mq_letP (f_G_of (xs (ix (v3 + 1))) (xs (ix (v3 + 2))) s) (fun (x72 : Int32) => (mm_inb (v3 + 1) len = true ∧ (mm_inb (v3 + 2) len = true ∧ (ok_M_of (xs (ix (v3 + 1))) (xs (ix (v3 + 2))) s ∧ mq_letP (f_M_of (xs (ix (v3 + 1))) (xs (ix (v3 + 2))) s) (fun (x73 : Int32) => (if x72 = x73 then (okl_law_18 len xs n (v3 + 6) s) else True))))))))) else (if ((xs (ix v3)) &&& 63) = 29 then (mm_inb (v3 + 1) len = true ∧ (mm_inb (v3 + 2) len = true ∧ (ok_G_why (xs (ix (v3 + 1))) (xs (ix (v3 + 2))) s ∧ mq_letP (f_G_why (xs (ix (v3 + 1))) (xs (ix (v3 + 2))) s) (fun (x74 : Int32 × mS) => (mm_inb (v3 + 1) len = true ∧ (mm_inb (v3 + 2) len = true ∧ (ok_M_why (xs (ix (v3 + 1))) (xs (ix (v3 + 2))) x74.2 ∧ mq_letP (f_M_why (xs (ix (v3 + 1))) (xs (ix (v3 + 2))) x74.2) (fun (x75 : Int32) => (if x74.1 = x75 then (okl_law_18 len xs n (v3 + 6) x74.2) else True))))))))) else (if ((xs (ix v3)) &&& 63) = 30 then (mm_inb (v3 + 1) len = true ∧ (mm_inb (v3 + 2) len = true ∧ (mm_inb (v3 + 3) len = true ∧ (ok_G_best (xs (ix (v3 + 1))) (xs (ix (v3 + 2))) (xs (ix (v3 + 3))) s ∧ mq_letP (f_G_best (xs (ix (v3 + 1))) (xs (ix (v3 + 2))) (xs (ix (v3 + 3))) s) (fun (x76 : Int32 × mS) => (mm_inb (v3 + 1) len = true ∧ (mm_inb (v3 + 2) len = true ∧ (mm_inb (v3 + 3) len = true ∧ (ok_M_best (xs (ix (v3 + 1))) (xs (ix (v3 + 2))) (xs (ix (v3 + 3))) x76.2 ∧ mq_letP (f_M_best (xs (ix (v3 + 1))) (xs (ix (v3 + 2))) (xs (ix (v3 + 3))) x76.2) (fun (x77 : Int32 × mS) => (if x76.1 = x77.1 then (okl_law_18 len xs n (v3 + 6) x77.2) else True))))))))))) else (if ((xs (ix v3)) &&& 63) = 31 then (ok_G_last s ∧ mq_letP (f_G_last s) (fun (x78 : Int32) => (ok_M_last s ∧ mq_letP (f_M_last s) (fun (x79 : Int32) => (if x78 = x79 then (okl_law_18 len xs n (v3 + 6) s) else True))))) else (if ((xs (ix v3)) &&& 63) = 32 then (mm_inb (v3 + 1) len = true ∧ (mm_inb (v3 + 2) len = true ∧ (ok_G_sees (xs (ix (v3 + 1))) (xs (ix (v3 + 2))) s ∧ mq_letP (f_G_sees (xs (ix (v3 + 1))) (xs (ix (v3 + 2))) s) (fun (x80 : Int32 × mS) => (mm_inb (v3 + 1) len = true ∧ (mm_inb (v3 + 2) len = true ∧ (ok_M_sees (xs (ix (v3 + 1))) (xs (ix (v3 + 2))) x80.2 ∧ mq_letP (f_M_sees (xs (ix (v3 + 1))) (xs (ix (v3 + 2))) x80.2) (fun (x81 : Int32 × mS) => (if x80.1 = x81.1 then (okl_law_18 len xs n (v3 + 6) x81.2) else True))))))))) else (if ((xs (ix v3)) &&& 63) = 33 then (mm_inb (v3 + 1) len = true ∧ (ok_G_find (xs (ix (v3 + 1))) s ∧ mq_letP (f_G_find (xs (ix (v3 + 1))) s) (fun (x82 : Int32 × mS) => (mm_inb (v3 + 1) len = true ∧ (ok_M_find (xs (ix (v3 + 1))) x82.2 ∧ mq_letP (f_M_find (xs (ix (v3 + 1))) x82.2) (fun (x83 : Int32 × mS) => (if x82.1 = x83.1 then (okl_law_18 len xs n (v3 + 6) x83.2) else True))))))) else (if ((xs (ix v3)) &&& 63) = 34 then (mm_inb (v3 + 1) len = true ∧ (mm_inb (v3 + 2) len = true ∧ (mm_inb (v3 + 3) len = true ∧ (ok_G_work (xs (ix (v3 + 1))) (xs (ix (v3 + 2))) (xs (ix (v3 + 3))) s ∧ mq_letP (f_G_work (xs (ix (v3 + 1))) (xs (ix (v3 + 2))) (xs (ix (v3 + 3))) s) (fun (x84 : Int32 × mS) => (mm_inb (v3 + 1) len = true ∧ (mm_inb (v3 + 2) len = true ∧ (mm_inb (v3 + 3) len = true ∧ (ok_M_work (xs (ix (v3 + 1))) (xs (ix (v3 + 2))) (xs (ix (v3 + 3))) x84.2 ∧ mq_letP (f_M_work (xs (ix (v3 + 1))) (xs (ix (v3 + 2))) (xs (ix (v3 + 3))) x84.2) (fun (x85 : Int32 × mS) => (if x84.1 = x85.1 then (okl_law_18 len xs n (v3 + 6) x85.2) else True))))))))))) else (if ((xs (ix v3)) &&& 63) = 35 then (mm_inb (v3 + 1) len = true ∧ (mm_inb (v3 + 2) len = true ∧ (mm_inb (v3 + 3) len = true ∧ (ok_G_choice (xs (ix (v3 + 1))) (xs (ix (v3 + 2))) (xs (ix (v3 + 3))) s ∧ mq_letP (f_G_choice (xs (ix (v3 + 1))) (xs (ix (v3 + 2))) (xs (ix (v3 + 3))) s) (fun (x86 : Int32 × mS) => (mm_inb (v3 + 1) len = true ∧ (mm_inb (v3 + 2) len = true ∧ (mm_inb (v3 + 3) len = true ∧ (ok_M_choice (xs (ix (v3 + 1))) (xs (ix (v3 + 2))) (xs (ix (v3 + 3))) x86.2 ∧ mq_letP (f_M_choice (xs (ix (v3 + 1))) (xs (ix (v3 + 2))) (xs (ix (v3 + 3))) x86.2) (fun (x87 : Int32 × mS) => (if x86.1 = x87.1 then (okl_law_18 len xs n (v3 + 6) x87.2) else True))))))))))) else (if ((xs (ix v3)) &&& 63) = 36 then (mm_inb (v3 + 1) len = true ∧ (ok_G_look (xs (ix (v3 + 1))) s ∧ mq_letP (f_G_look (xs (ix (v3 + 1))) s) (fun (x88 : Int64) => (mm_inb (v3 + 1) len = true ∧ (ok_M_look (xs (ix (v3 + 1))) s ∧ mq_letP (f_M_look (xs (ix (v3 + 1))) s) (fun (x89 : Int64) => (if (lg_cmp x88 x89) = 0 then (okl_law_18 len xs n (v3 + 6) s) else True))))))) else (okl_law_18 len xs n (v3 + 6) s))))))))))))))))))))))))))))))))))))))))
set_option maxRecDepth 4000 in
theorem tl_law_18 {len : Nat} {xs : Nat → Int32}  (d : Nat)   {T : Option mm_R} (K : Option Int32 × Int32 × mS → Prop) (hX : ∀ r, K r → r.1 = none → mm_fix (mm_X len xs) mm_Y (mm_call (mm_X len xs) mm_Y (d + 70)) (mm_look mc_Law_law) (1504, [some (.ref 1000001), some (.ref 0), some (.ref 116), some (.int r.2.1)], [], mT r.2.2) = T) (hR : ∀ r, K r → ∀ v, r.1 = some v → some (some (.int v), mT r.2.2) = T) : ∀ (n : Nat), ∀ (v3 : Int32) (s : mS), okl_law_18 len xs n v3 s → K (lp_law_18 len xs n v3 s) → mm_fix (mm_X len xs) mm_Y (mm_call (mm_X len xs) mm_Y (d + 70)) (mm_look mc_Law_law) (18, [some (.ref 1000001), some (.ref 0), some (.ref 116), some (.int v3)], [], mT s) = T := by
  intro n
  induction n with
  | zero => intro v3 s; exact fun h => h.elim
  | succ n ih =>
    intro v3 s
    rw [okl_law_18, lp_law_18]
    refine w_go K 2 (c' := (20, [some (.ref 1000001), some (.ref 0), some (.ref 116), some (.int v3)], [.ref 1000001, .int v3], mT s)) rfl ?_
    refine w_st K (c' := (21, [some (.ref 1000001), some (.ref 0), some (.ref 116), some (.int v3)], [.int (Int32.ofNat len), .int v3], mT s)) (mm_x1l rfl) ?_
    refine w_go K 2 (c' := (24, [some (.ref 1000001), some (.ref 0), some (.ref 116), some (.int v3)], [.int ((Int32.ofNat len) - 6), .int v3], mT s)) rfl ?_
    refine w_igt K rfl (fun _ => ?_) (fun _ => ?_)
    · refine w_go K 0 (c' := (1504, [some (.ref 1000001), some (.ref 0), some (.ref 116), some (.int v3)], [], mT s)) rfl ?_
      exact fun _ b => hX _ b rfl
    · refine w_go K 2 (c' := (29, [some (.ref 1000001), some (.ref 0), some (.ref 116), some (.int v3)], [.int v3, .ref 1000001], mT s)) rfl ?_
      refine w_ck K (mm_x1 rfl) ?_
      refine w_go K 2 (c' := (33, [some (.ref 1000001), some (.ref 0), some (.ref 116), some (.int v3)], [.int ((xs (ix v3)) &&& 63)], mT s)) rfl ?_
      refine w_go K 1 (c' := (mm_sw [(0, 196), (1, 249), (2, 292), (3, 305), (4, 348), (5, 371), (6, 394), (7, 427), (8, 460), (9, 483), (10, 526), (11, 575), (12, 628), (13, 677), (14, 710), (15, 759), (16, 782), (17, 805), (18, 848), (19, 902), (20, 935), (21, 998), (22, 1021), (23, 1054), (24, 1077), (25, 1130), (26, 1153), (27, 1177), (28, 1210), (29, 1243), (30, 1276), (31, 1319), (32, 1332), (33, 1365), (34, 1388), (35, 1431), (36, 1474)] 1498 ((xs (ix v3)) &&& 63), [some (.ref 1000001), some (.ref 0), some (.ref 116), some (.int v3)], [], mT s)) rfl ?_
      refine w_sw K (fun _ => ?_) (fun _ => ?_)
      · refine w_go K 5 (c' := (201, [some (.ref 1000001), some (.ref 0), some (.ref 116), some (.int v3)], [.int (v3 + 1), .ref 1000001, .ref 0], mT s)) rfl ?_
        refine w_ck K (mm_x1 rfl) ?_
        refine w_go K 4 (c' := (206, [some (.ref 1000001), some (.ref 0), some (.ref 116), some (.int v3)], [.int (v3 + 2), .ref 1000001, .int (xs (ix (v3 + 1))), .ref 0], mT s)) rfl ?_
        refine w_ck K (mm_x1 rfl) ?_
        refine w_go K 4 (c' := (211, [some (.ref 1000001), some (.ref 0), some (.ref 116), some (.int v3)], [.int (v3 + 3), .ref 1000001, .int (xs (ix (v3 + 2))), .int (xs (ix (v3 + 1))), .ref 0], mT s)) rfl ?_
        refine w_ck K (mm_x1 rfl) ?_
        refine w_go K 4 (c' := (216, [some (.ref 1000001), some (.ref 0), some (.ref 116), some (.int v3)], [.int (v3 + 4), .ref 1000001, .int (xs (ix (v3 + 3))), .int (xs (ix (v3 + 2))), .int (xs (ix (v3 + 1))), .ref 0], mT s)) rfl ?_
        refine w_ck K (mm_x1 rfl) ?_
        refine w_go K 0 (c' := (217, [some (.ref 1000001), some (.ref 0), some (.ref 116), some (.int v3)], [.int (xs (ix (v3 + 4))), .int (xs (ix (v3 + 3))), .int (xs (ix (v3 + 2))), .int (xs (ix (v3 + 1))), .ref 0], mT s)) rfl ?_
        refine w_callL K (E := f_G_coal (xs (ix (v3 + 1))) (xs (ix (v3 + 2))) (xs (ix (v3 + 3))) (xs (ix (v3 + 4))) s) (g := fun (x10 : Int32 × mS) => (some (.int x10.1), mT x10.2)) rfl (m_G_coal (len := len) (xs := xs) (d + 68) (xs (ix (v3 + 1))) (xs (ix (v3 + 2))) (xs (ix (v3 + 3))) (xs (ix (v3 + 4))) s) (fun x10 => ?_)
        refine w_go K 5 (c' := (225, [some (.ref 1000001), some (.ref 0), some (.ref 116), some (.int v3)], [.int (v3 + 1), .ref 1000001, .ref 116, .int x10.1], mT x10.2)) rfl ?_
        refine w_ck K (mm_x1 rfl) ?_
        refine w_go K 4 (c' := (230, [some (.ref 1000001), some (.ref 0), some (.ref 116), some (.int v3)], [.int (v3 + 2), .ref 1000001, .int (xs (ix (v3 + 1))), .ref 116, .int x10.1], mT x10.2)) rfl ?_
        refine w_ck K (mm_x1 rfl) ?_
        refine w_go K 4 (c' := (235, [some (.ref 1000001), some (.ref 0), some (.ref 116), some (.int v3)], [.int (v3 + 3), .ref 1000001, .int (xs (ix (v3 + 2))), .int (xs (ix (v3 + 1))), .ref 116, .int x10.1], mT x10.2)) rfl ?_
        refine w_ck K (mm_x1 rfl) ?_
        refine w_go K 4 (c' := (240, [some (.ref 1000001), some (.ref 0), some (.ref 116), some (.int v3)], [.int (v3 + 4), .ref 1000001, .int (xs (ix (v3 + 3))), .int (xs (ix (v3 + 2))), .int (xs (ix (v3 + 1))), .ref 116, .int x10.1], mT x10.2)) rfl ?_
        refine w_ck K (mm_x1 rfl) ?_
        refine w_go K 0 (c' := (241, [some (.ref 1000001), some (.ref 0), some (.ref 116), some (.int v3)], [.int (xs (ix (v3 + 4))), .int (xs (ix (v3 + 3))), .int (xs (ix (v3 + 2))), .int (xs (ix (v3 + 1))), .ref 116, .int x10.1], mT x10.2)) rfl ?_
        refine w_callL K (E := f_M_coal (xs (ix (v3 + 1))) (xs (ix (v3 + 2))) (xs (ix (v3 + 3))) (xs (ix (v3 + 4))) x10.2) (g := fun (x11 : Int32 × mS) => (some (.int x11.1), mT x11.2)) rfl (m_M_coal (len := len) (xs := xs) (d + 67) (xs (ix (v3 + 1))) (xs (ix (v3 + 2))) (xs (ix (v3 + 3))) (xs (ix (v3 + 4))) x10.2) (fun x11 => ?_)
        refine w_go K 0 (c' := (244, [some (.ref 1000001), some (.ref 0), some (.ref 116), some (.int v3)], [.int x11.1, .int x10.1], mT x11.2)) rfl ?_
        refine w_ieq K rfl (fun _ => ?_) (fun _ => ?_)
        · refine w_go K 2 (c' := (18, [some (.ref 1000001), some (.ref 0), some (.ref 116), some (.int (v3 + 6))], [], mT x11.2)) rfl ?_
          exact fun a b => ih (v3 + 6) x11.2 a b
        · refine w_go K 1 (c' := (248, [some (.ref 1000001), some (.ref 0), some (.ref 116), some (.int v3)], [.int 0], mT x11.2)) rfl ?_
          exact w_ret K rfl (fun h => hR _ h _ rfl)
      · refine w_sw K (fun _ => ?_) (fun _ => ?_)
        · refine w_go K 5 (c' := (254, [some (.ref 1000001), some (.ref 0), some (.ref 116), some (.int v3)], [.int (v3 + 1), .ref 1000001, .ref 0], mT s)) rfl ?_
          refine w_ck K (mm_x1 rfl) ?_
          refine w_go K 4 (c' := (259, [some (.ref 1000001), some (.ref 0), some (.ref 116), some (.int v3)], [.int (v3 + 2), .ref 1000001, .int (xs (ix (v3 + 1))), .ref 0], mT s)) rfl ?_
          refine w_ck K (mm_x1 rfl) ?_
          refine w_go K 4 (c' := (264, [some (.ref 1000001), some (.ref 0), some (.ref 116), some (.int v3)], [.int (v3 + 3), .ref 1000001, .int (xs (ix (v3 + 2))), .int (xs (ix (v3 + 1))), .ref 0], mT s)) rfl ?_
          refine w_ck K (mm_x1 rfl) ?_
          refine w_go K 0 (c' := (265, [some (.ref 1000001), some (.ref 0), some (.ref 116), some (.int v3)], [.int (xs (ix (v3 + 3))), .int (xs (ix (v3 + 2))), .int (xs (ix (v3 + 1))), .ref 0], mT s)) rfl ?_
          refine w_callL K (E := f_G_buy (xs (ix (v3 + 1))) (xs (ix (v3 + 2))) (xs (ix (v3 + 3))) s) (g := fun (x12 : Int32 × mS) => (some (.int x12.1), mT x12.2)) rfl (m_G_buy (len := len) (xs := xs) (d + 68) (xs (ix (v3 + 1))) (xs (ix (v3 + 2))) (xs (ix (v3 + 3))) s) (fun x12 => ?_)
          refine w_go K 5 (c' := (273, [some (.ref 1000001), some (.ref 0), some (.ref 116), some (.int v3)], [.int (v3 + 1), .ref 1000001, .ref 116, .int x12.1], mT x12.2)) rfl ?_
          refine w_ck K (mm_x1 rfl) ?_
          refine w_go K 4 (c' := (278, [some (.ref 1000001), some (.ref 0), some (.ref 116), some (.int v3)], [.int (v3 + 2), .ref 1000001, .int (xs (ix (v3 + 1))), .ref 116, .int x12.1], mT x12.2)) rfl ?_
          refine w_ck K (mm_x1 rfl) ?_
          refine w_go K 4 (c' := (283, [some (.ref 1000001), some (.ref 0), some (.ref 116), some (.int v3)], [.int (v3 + 3), .ref 1000001, .int (xs (ix (v3 + 2))), .int (xs (ix (v3 + 1))), .ref 116, .int x12.1], mT x12.2)) rfl ?_
          refine w_ck K (mm_x1 rfl) ?_
          refine w_go K 0 (c' := (284, [some (.ref 1000001), some (.ref 0), some (.ref 116), some (.int v3)], [.int (xs (ix (v3 + 3))), .int (xs (ix (v3 + 2))), .int (xs (ix (v3 + 1))), .ref 116, .int x12.1], mT x12.2)) rfl ?_
          refine w_callL K (E := f_M_buy (xs (ix (v3 + 1))) (xs (ix (v3 + 2))) (xs (ix (v3 + 3))) x12.2) (g := fun (x13 : Int32 × mS) => (some (.int x13.1), mT x13.2)) rfl (m_M_buy (len := len) (xs := xs) (d + 67) (xs (ix (v3 + 1))) (xs (ix (v3 + 2))) (xs (ix (v3 + 3))) x12.2) (fun x13 => ?_)
          refine w_go K 0 (c' := (287, [some (.ref 1000001), some (.ref 0), some (.ref 116), some (.int v3)], [.int x13.1, .int x12.1], mT x13.2)) rfl ?_
          refine w_ieq K rfl (fun _ => ?_) (fun _ => ?_)
          · refine w_go K 2 (c' := (18, [some (.ref 1000001), some (.ref 0), some (.ref 116), some (.int (v3 + 6))], [], mT x13.2)) rfl ?_
            exact fun a b => ih (v3 + 6) x13.2 a b
          · refine w_go K 1 (c' := (291, [some (.ref 1000001), some (.ref 0), some (.ref 116), some (.int v3)], [.int 0], mT x13.2)) rfl ?_
            exact w_ret K rfl (fun h => hR _ h _ rfl)
        · refine w_sw K (fun _ => ?_) (fun _ => ?_)
          · refine w_go K 1 (c' := (293, [some (.ref 1000001), some (.ref 0), some (.ref 116), some (.int v3)], [.ref 0], mT s)) rfl ?_
            refine w_callL K (E := f_G_bench s) (g := fun (x14 : Int32 × mS) => (some (.int x14.1), mT x14.2)) rfl (m_G_bench (len := len) (xs := xs) (d + 68) s) (fun x14 => ?_)
            refine w_go K 1 (c' := (297, [some (.ref 1000001), some (.ref 0), some (.ref 116), some (.int v3)], [.ref 116, .int x14.1], mT x14.2)) rfl ?_
            refine w_callL K (E := f_M_bench x14.2) (g := fun (x15 : Int32 × mS) => (some (.int x15.1), mT x15.2)) rfl (m_M_bench (len := len) (xs := xs) (d + 69) x14.2) (fun x15 => ?_)
            refine w_go K 0 (c' := (300, [some (.ref 1000001), some (.ref 0), some (.ref 116), some (.int v3)], [.int x15.1, .int x14.1], mT x15.2)) rfl ?_
            refine w_ieq K rfl (fun _ => ?_) (fun _ => ?_)
            · refine w_go K 2 (c' := (18, [some (.ref 1000001), some (.ref 0), some (.ref 116), some (.int (v3 + 6))], [], mT x15.2)) rfl ?_
              exact fun a b => ih (v3 + 6) x15.2 a b
            · refine w_go K 1 (c' := (304, [some (.ref 1000001), some (.ref 0), some (.ref 116), some (.int v3)], [.int 0], mT x15.2)) rfl ?_
              exact w_ret K rfl (fun h => hR _ h _ rfl)
          · refine w_sw K (fun _ => ?_) (fun _ => ?_)
            · refine w_go K 5 (c' := (310, [some (.ref 1000001), some (.ref 0), some (.ref 116), some (.int v3)], [.int (v3 + 1), .ref 1000001, .ref 0], mT s)) rfl ?_
              refine w_ck K (mm_x1 rfl) ?_
              refine w_go K 4 (c' := (315, [some (.ref 1000001), some (.ref 0), some (.ref 116), some (.int v3)], [.int (v3 + 2), .ref 1000001, .int (xs (ix (v3 + 1))), .ref 0], mT s)) rfl ?_
              refine w_ck K (mm_x1 rfl) ?_
              refine w_go K 4 (c' := (320, [some (.ref 1000001), some (.ref 0), some (.ref 116), some (.int v3)], [.int (v3 + 3), .ref 1000001, .int (xs (ix (v3 + 2))), .int (xs (ix (v3 + 1))), .ref 0], mT s)) rfl ?_
              refine w_ck K (mm_x1 rfl) ?_
              refine w_go K 0 (c' := (321, [some (.ref 1000001), some (.ref 0), some (.ref 116), some (.int v3)], [.int (xs (ix (v3 + 3))), .int (xs (ix (v3 + 2))), .int (xs (ix (v3 + 1))), .ref 0], mT s)) rfl ?_
              refine w_callL K (E := f_G_charge (xs (ix (v3 + 1))) (xs (ix (v3 + 2))) (xs (ix (v3 + 3))) s) (g := fun (x16 : Int32 × mS) => (some (.int x16.1), mT x16.2)) rfl (m_G_charge (len := len) (xs := xs) (d + 67) (xs (ix (v3 + 1))) (xs (ix (v3 + 2))) (xs (ix (v3 + 3))) s) (fun x16 => ?_)
              refine w_go K 5 (c' := (329, [some (.ref 1000001), some (.ref 0), some (.ref 116), some (.int v3)], [.int (v3 + 1), .ref 1000001, .ref 116, .int x16.1], mT x16.2)) rfl ?_
              refine w_ck K (mm_x1 rfl) ?_
              refine w_go K 4 (c' := (334, [some (.ref 1000001), some (.ref 0), some (.ref 116), some (.int v3)], [.int (v3 + 2), .ref 1000001, .int (xs (ix (v3 + 1))), .ref 116, .int x16.1], mT x16.2)) rfl ?_
              refine w_ck K (mm_x1 rfl) ?_
              refine w_go K 4 (c' := (339, [some (.ref 1000001), some (.ref 0), some (.ref 116), some (.int v3)], [.int (v3 + 3), .ref 1000001, .int (xs (ix (v3 + 2))), .int (xs (ix (v3 + 1))), .ref 116, .int x16.1], mT x16.2)) rfl ?_
              refine w_ck K (mm_x1 rfl) ?_
              refine w_go K 0 (c' := (340, [some (.ref 1000001), some (.ref 0), some (.ref 116), some (.int v3)], [.int (xs (ix (v3 + 3))), .int (xs (ix (v3 + 2))), .int (xs (ix (v3 + 1))), .ref 116, .int x16.1], mT x16.2)) rfl ?_
              refine w_callL K (E := f_M_charge (xs (ix (v3 + 1))) (xs (ix (v3 + 2))) (xs (ix (v3 + 3))) x16.2) (g := fun (x17 : Int32 × mS) => (some (.int x17.1), mT x17.2)) rfl (m_M_charge (len := len) (xs := xs) (d + 67) (xs (ix (v3 + 1))) (xs (ix (v3 + 2))) (xs (ix (v3 + 3))) x16.2) (fun x17 => ?_)
              refine w_go K 0 (c' := (343, [some (.ref 1000001), some (.ref 0), some (.ref 116), some (.int v3)], [.int x17.1, .int x16.1], mT x17.2)) rfl ?_
              refine w_ieq K rfl (fun _ => ?_) (fun _ => ?_)
              · refine w_go K 2 (c' := (18, [some (.ref 1000001), some (.ref 0), some (.ref 116), some (.int (v3 + 6))], [], mT x17.2)) rfl ?_
                exact fun a b => ih (v3 + 6) x17.2 a b
              · refine w_go K 1 (c' := (347, [some (.ref 1000001), some (.ref 0), some (.ref 116), some (.int v3)], [.int 0], mT x17.2)) rfl ?_
                exact w_ret K rfl (fun h => hR _ h _ rfl)
            · refine w_sw K (fun _ => ?_) (fun _ => ?_)
              · refine w_go K 5 (c' := (353, [some (.ref 1000001), some (.ref 0), some (.ref 116), some (.int v3)], [.int (v3 + 1), .ref 1000001, .ref 0], mT s)) rfl ?_
                refine w_ck K (mm_x1 rfl) ?_
                refine w_go K 0 (c' := (354, [some (.ref 1000001), some (.ref 0), some (.ref 116), some (.int v3)], [.int (xs (ix (v3 + 1))), .ref 0], mT s)) rfl ?_
                refine w_callL K (E := f_G_hands (xs (ix (v3 + 1))) s) (g := fun (x18 : Int32 × mS) => (some (.int x18.1), mT x18.2)) rfl (m_G_hands (len := len) (xs := xs) (d + 68) (xs (ix (v3 + 1))) s) (fun x18 => ?_)
                refine w_go K 5 (c' := (362, [some (.ref 1000001), some (.ref 0), some (.ref 116), some (.int v3)], [.int (v3 + 1), .ref 1000001, .ref 116, .int x18.1], mT x18.2)) rfl ?_
                refine w_ck K (mm_x1 rfl) ?_
                refine w_go K 0 (c' := (363, [some (.ref 1000001), some (.ref 0), some (.ref 116), some (.int v3)], [.int (xs (ix (v3 + 1))), .ref 116, .int x18.1], mT x18.2)) rfl ?_
                refine w_callL K (E := f_M_hands (xs (ix (v3 + 1))) x18.2) (g := fun (x19 : Int32 × mS) => (some (.int x19.1), mT x19.2)) rfl (m_M_hands (len := len) (xs := xs) (d + 68) (xs (ix (v3 + 1))) x18.2) (fun x19 => ?_)
                refine w_go K 0 (c' := (366, [some (.ref 1000001), some (.ref 0), some (.ref 116), some (.int v3)], [.int x19.1, .int x18.1], mT x19.2)) rfl ?_
                refine w_ieq K rfl (fun _ => ?_) (fun _ => ?_)
                · refine w_go K 2 (c' := (18, [some (.ref 1000001), some (.ref 0), some (.ref 116), some (.int (v3 + 6))], [], mT x19.2)) rfl ?_
                  exact fun a b => ih (v3 + 6) x19.2 a b
                · refine w_go K 1 (c' := (370, [some (.ref 1000001), some (.ref 0), some (.ref 116), some (.int v3)], [.int 0], mT x19.2)) rfl ?_
                  exact w_ret K rfl (fun h => hR _ h _ rfl)
              · refine w_sw K (fun _ => ?_) (fun _ => ?_)
                · refine w_go K 5 (c' := (376, [some (.ref 1000001), some (.ref 0), some (.ref 116), some (.int v3)], [.int (v3 + 1), .ref 1000001, .ref 0], mT s)) rfl ?_
                  refine w_ck K (mm_x1 rfl) ?_
                  refine w_go K 0 (c' := (377, [some (.ref 1000001), some (.ref 0), some (.ref 116), some (.int v3)], [.int (xs (ix (v3 + 1))), .ref 0], mT s)) rfl ?_
                  refine w_callL K (E := f_G_holder (xs (ix (v3 + 1))) s) (g := fun (x20 : Int32 × mS) => (some (.int x20.1), mT x20.2)) rfl (m_G_holder (len := len) (xs := xs) (d + 68) (xs (ix (v3 + 1))) s) (fun x20 => ?_)
                  refine w_go K 5 (c' := (385, [some (.ref 1000001), some (.ref 0), some (.ref 116), some (.int v3)], [.int (v3 + 1), .ref 1000001, .ref 116, .int x20.1], mT x20.2)) rfl ?_
                  refine w_ck K (mm_x1 rfl) ?_
                  refine w_go K 0 (c' := (386, [some (.ref 1000001), some (.ref 0), some (.ref 116), some (.int v3)], [.int (xs (ix (v3 + 1))), .ref 116, .int x20.1], mT x20.2)) rfl ?_
                  refine w_callL K (E := f_M_holder (xs (ix (v3 + 1))) x20.2) (g := fun (x21 : Int32 × mS) => (some (.int x21.1), mT x21.2)) rfl (m_M_holder (len := len) (xs := xs) (d + 68) (xs (ix (v3 + 1))) x20.2) (fun x21 => ?_)
                  refine w_go K 0 (c' := (389, [some (.ref 1000001), some (.ref 0), some (.ref 116), some (.int v3)], [.int x21.1, .int x20.1], mT x21.2)) rfl ?_
                  refine w_ieq K rfl (fun _ => ?_) (fun _ => ?_)
                  · refine w_go K 2 (c' := (18, [some (.ref 1000001), some (.ref 0), some (.ref 116), some (.int (v3 + 6))], [], mT x21.2)) rfl ?_
                    exact fun a b => ih (v3 + 6) x21.2 a b
                  · refine w_go K 1 (c' := (393, [some (.ref 1000001), some (.ref 0), some (.ref 116), some (.int v3)], [.int 0], mT x21.2)) rfl ?_
                    exact w_ret K rfl (fun h => hR _ h _ rfl)
                · refine w_sw K (fun _ => ?_) (fun _ => ?_)
                  · refine w_go K 5 (c' := (399, [some (.ref 1000001), some (.ref 0), some (.ref 116), some (.int v3)], [.int (v3 + 1), .ref 1000001, .ref 0], mT s)) rfl ?_
                    refine w_ck K (mm_x1 rfl) ?_
                    refine w_go K 4 (c' := (404, [some (.ref 1000001), some (.ref 0), some (.ref 116), some (.int v3)], [.int (v3 + 2), .ref 1000001, .int (xs (ix (v3 + 1))), .ref 0], mT s)) rfl ?_
                    refine w_ck K (mm_x1 rfl) ?_
                    refine w_go K 0 (c' := (405, [some (.ref 1000001), some (.ref 0), some (.ref 116), some (.int v3)], [.int (xs (ix (v3 + 2))), .int (xs (ix (v3 + 1))), .ref 0], mT s)) rfl ?_
                    refine w_callL K (E := f_G_round (xs (ix (v3 + 1))) (xs (ix (v3 + 2))) s) (g := fun (x22 : Int32 × mS) => (some (.int x22.1), mT x22.2)) rfl (m_G_round (len := len) (xs := xs) (d + 68) (xs (ix (v3 + 1))) (xs (ix (v3 + 2))) s) (fun x22 => ?_)
                    refine w_go K 5 (c' := (413, [some (.ref 1000001), some (.ref 0), some (.ref 116), some (.int v3)], [.int (v3 + 1), .ref 1000001, .ref 116, .int x22.1], mT x22.2)) rfl ?_
                    refine w_ck K (mm_x1 rfl) ?_
                    refine w_go K 4 (c' := (418, [some (.ref 1000001), some (.ref 0), some (.ref 116), some (.int v3)], [.int (v3 + 2), .ref 1000001, .int (xs (ix (v3 + 1))), .ref 116, .int x22.1], mT x22.2)) rfl ?_
                    refine w_ck K (mm_x1 rfl) ?_
                    refine w_go K 0 (c' := (419, [some (.ref 1000001), some (.ref 0), some (.ref 116), some (.int v3)], [.int (xs (ix (v3 + 2))), .int (xs (ix (v3 + 1))), .ref 116, .int x22.1], mT x22.2)) rfl ?_
                    refine w_callL K (E := f_M_round (xs (ix (v3 + 1))) (xs (ix (v3 + 2))) x22.2) (g := fun (x23 : Int32 × mS) => (some (.int x23.1), mT x23.2)) rfl (m_M_round (len := len) (xs := xs) (d + 68) (xs (ix (v3 + 1))) (xs (ix (v3 + 2))) x22.2) (fun x23 => ?_)
                    refine w_go K 0 (c' := (422, [some (.ref 1000001), some (.ref 0), some (.ref 116), some (.int v3)], [.int x23.1, .int x22.1], mT x23.2)) rfl ?_
                    refine w_ieq K rfl (fun _ => ?_) (fun _ => ?_)
                    · refine w_go K 2 (c' := (18, [some (.ref 1000001), some (.ref 0), some (.ref 116), some (.int (v3 + 6))], [], mT x23.2)) rfl ?_
                      exact fun a b => ih (v3 + 6) x23.2 a b
                    · refine w_go K 1 (c' := (426, [some (.ref 1000001), some (.ref 0), some (.ref 116), some (.int v3)], [.int 0], mT x23.2)) rfl ?_
                      exact w_ret K rfl (fun h => hR _ h _ rfl)
                  · refine w_sw K (fun _ => ?_) (fun _ => ?_)
                    · refine w_go K 5 (c' := (432, [some (.ref 1000001), some (.ref 0), some (.ref 116), some (.int v3)], [.int (v3 + 1), .ref 1000001, .ref 0], mT s)) rfl ?_
                      refine w_ck K (mm_x1 rfl) ?_
                      refine w_go K 4 (c' := (437, [some (.ref 1000001), some (.ref 0), some (.ref 116), some (.int v3)], [.int (v3 + 2), .ref 1000001, .int (xs (ix (v3 + 1))), .ref 0], mT s)) rfl ?_
                      refine w_ck K (mm_x1 rfl) ?_
                      refine w_go K 0 (c' := (438, [some (.ref 1000001), some (.ref 0), some (.ref 116), some (.int v3)], [.int (xs (ix (v3 + 2))), .int (xs (ix (v3 + 1))), .ref 0], mT s)) rfl ?_
                      refine w_callL K (E := f_G_fog (xs (ix (v3 + 1))) (xs (ix (v3 + 2))) s) (g := fun (x24 : Int32 × mS) => (some (.int x24.1), mT x24.2)) rfl (m_G_fog (len := len) (xs := xs) (d + 68) (xs (ix (v3 + 1))) (xs (ix (v3 + 2))) s) (fun x24 => ?_)
                      refine w_go K 5 (c' := (446, [some (.ref 1000001), some (.ref 0), some (.ref 116), some (.int v3)], [.int (v3 + 1), .ref 1000001, .ref 116, .int x24.1], mT x24.2)) rfl ?_
                      refine w_ck K (mm_x1 rfl) ?_
                      refine w_go K 4 (c' := (451, [some (.ref 1000001), some (.ref 0), some (.ref 116), some (.int v3)], [.int (v3 + 2), .ref 1000001, .int (xs (ix (v3 + 1))), .ref 116, .int x24.1], mT x24.2)) rfl ?_
                      refine w_ck K (mm_x1 rfl) ?_
                      refine w_go K 0 (c' := (452, [some (.ref 1000001), some (.ref 0), some (.ref 116), some (.int v3)], [.int (xs (ix (v3 + 2))), .int (xs (ix (v3 + 1))), .ref 116, .int x24.1], mT x24.2)) rfl ?_
                      refine w_callL K (E := f_M_fog (xs (ix (v3 + 1))) (xs (ix (v3 + 2))) x24.2) (g := fun (x25 : Int32 × mS) => (some (.int x25.1), mT x25.2)) rfl (m_M_fog (len := len) (xs := xs) (d + 68) (xs (ix (v3 + 1))) (xs (ix (v3 + 2))) x24.2) (fun x25 => ?_)
                      refine w_go K 0 (c' := (455, [some (.ref 1000001), some (.ref 0), some (.ref 116), some (.int v3)], [.int x25.1, .int x24.1], mT x25.2)) rfl ?_
                      refine w_ieq K rfl (fun _ => ?_) (fun _ => ?_)
                      · refine w_go K 2 (c' := (18, [some (.ref 1000001), some (.ref 0), some (.ref 116), some (.int (v3 + 6))], [], mT x25.2)) rfl ?_
                        exact fun a b => ih (v3 + 6) x25.2 a b
                      · refine w_go K 1 (c' := (459, [some (.ref 1000001), some (.ref 0), some (.ref 116), some (.int v3)], [.int 0], mT x25.2)) rfl ?_
                        exact w_ret K rfl (fun h => hR _ h _ rfl)
                    · refine w_sw K (fun _ => ?_) (fun _ => ?_)
                      · refine w_go K 5 (c' := (465, [some (.ref 1000001), some (.ref 0), some (.ref 116), some (.int v3)], [.int (v3 + 1), .ref 1000001, .ref 0], mT s)) rfl ?_
                        refine w_ck K (mm_x1 rfl) ?_
                        refine w_go K 0 (c' := (466, [some (.ref 1000001), some (.ref 0), some (.ref 116), some (.int v3)], [.int (xs (ix (v3 + 1))), .ref 0], mT s)) rfl ?_
                        refine w_callL K (E := f_G_gate (xs (ix (v3 + 1))) s) (g := fun (x26 : Int32 × mS) => (some (.int x26.1), mT x26.2)) rfl (m_G_gate (len := len) (xs := xs) (d + 68) (xs (ix (v3 + 1))) s) (fun x26 => ?_)
                        refine w_go K 5 (c' := (474, [some (.ref 1000001), some (.ref 0), some (.ref 116), some (.int v3)], [.int (v3 + 1), .ref 1000001, .ref 116, .int x26.1], mT x26.2)) rfl ?_
                        refine w_ck K (mm_x1 rfl) ?_
                        refine w_go K 0 (c' := (475, [some (.ref 1000001), some (.ref 0), some (.ref 116), some (.int v3)], [.int (xs (ix (v3 + 1))), .ref 116, .int x26.1], mT x26.2)) rfl ?_
                        refine w_callL K (E := f_M_gate (xs (ix (v3 + 1))) x26.2) (g := fun (x27 : Int32 × mS) => (some (.int x27.1), mT x27.2)) rfl (m_M_gate (len := len) (xs := xs) (d + 68) (xs (ix (v3 + 1))) x26.2) (fun x27 => ?_)
                        refine w_go K 0 (c' := (478, [some (.ref 1000001), some (.ref 0), some (.ref 116), some (.int v3)], [.int x27.1, .int x26.1], mT x27.2)) rfl ?_
                        refine w_ieq K rfl (fun _ => ?_) (fun _ => ?_)
                        · refine w_go K 2 (c' := (18, [some (.ref 1000001), some (.ref 0), some (.ref 116), some (.int (v3 + 6))], [], mT x27.2)) rfl ?_
                          exact fun a b => ih (v3 + 6) x27.2 a b
                        · refine w_go K 1 (c' := (482, [some (.ref 1000001), some (.ref 0), some (.ref 116), some (.int v3)], [.int 0], mT x27.2)) rfl ?_
                          exact w_ret K rfl (fun h => hR _ h _ rfl)
                      · refine w_sw K (fun _ => ?_) (fun _ => ?_)
                        · refine w_go K 5 (c' := (488, [some (.ref 1000001), some (.ref 0), some (.ref 116), some (.int v3)], [.int (v3 + 1), .ref 1000001, .ref 0], mT s)) rfl ?_
                          refine w_ck K (mm_x1 rfl) ?_
                          refine w_go K 4 (c' := (493, [some (.ref 1000001), some (.ref 0), some (.ref 116), some (.int v3)], [.int (v3 + 2), .ref 1000001, .int (xs (ix (v3 + 1))), .ref 0], mT s)) rfl ?_
                          refine w_ck K (mm_x1 rfl) ?_
                          refine w_go K 4 (c' := (498, [some (.ref 1000001), some (.ref 0), some (.ref 116), some (.int v3)], [.int (v3 + 3), .ref 1000001, .int (xs (ix (v3 + 2))), .int (xs (ix (v3 + 1))), .ref 0], mT s)) rfl ?_
                          refine w_ck K (mm_x1 rfl) ?_
                          refine w_go K 0 (c' := (499, [some (.ref 1000001), some (.ref 0), some (.ref 116), some (.int v3)], [.int (xs (ix (v3 + 3))), .int (xs (ix (v3 + 2))), .int (xs (ix (v3 + 1))), .ref 0], mT s)) rfl ?_
                          refine w_callL K (E := f_G_node (xs (ix (v3 + 1))) (xs (ix (v3 + 2))) (xs (ix (v3 + 3))) s) (g := fun (x28 : Int32 × mS) => (some (.int x28.1), mT x28.2)) rfl (m_G_node (len := len) (xs := xs) (d + 68) (xs (ix (v3 + 1))) (xs (ix (v3 + 2))) (xs (ix (v3 + 3))) s) (fun x28 => ?_)
                          refine w_go K 5 (c' := (507, [some (.ref 1000001), some (.ref 0), some (.ref 116), some (.int v3)], [.int (v3 + 1), .ref 1000001, .ref 116, .int x28.1], mT x28.2)) rfl ?_
                          refine w_ck K (mm_x1 rfl) ?_
                          refine w_go K 4 (c' := (512, [some (.ref 1000001), some (.ref 0), some (.ref 116), some (.int v3)], [.int (v3 + 2), .ref 1000001, .int (xs (ix (v3 + 1))), .ref 116, .int x28.1], mT x28.2)) rfl ?_
                          refine w_ck K (mm_x1 rfl) ?_
                          refine w_go K 4 (c' := (517, [some (.ref 1000001), some (.ref 0), some (.ref 116), some (.int v3)], [.int (v3 + 3), .ref 1000001, .int (xs (ix (v3 + 2))), .int (xs (ix (v3 + 1))), .ref 116, .int x28.1], mT x28.2)) rfl ?_
                          refine w_ck K (mm_x1 rfl) ?_
                          refine w_go K 0 (c' := (518, [some (.ref 1000001), some (.ref 0), some (.ref 116), some (.int v3)], [.int (xs (ix (v3 + 3))), .int (xs (ix (v3 + 2))), .int (xs (ix (v3 + 1))), .ref 116, .int x28.1], mT x28.2)) rfl ?_
                          refine w_callL K (E := f_M_node (xs (ix (v3 + 1))) (xs (ix (v3 + 2))) (xs (ix (v3 + 3))) x28.2) (g := fun (x29 : Int32 × mS) => (some (.int x29.1), mT x29.2)) rfl (m_M_node (len := len) (xs := xs) (d + 67) (xs (ix (v3 + 1))) (xs (ix (v3 + 2))) (xs (ix (v3 + 3))) x28.2) (fun x29 => ?_)
                          refine w_go K 0 (c' := (521, [some (.ref 1000001), some (.ref 0), some (.ref 116), some (.int v3)], [.int x29.1, .int x28.1], mT x29.2)) rfl ?_
                          refine w_ieq K rfl (fun _ => ?_) (fun _ => ?_)
                          · refine w_go K 2 (c' := (18, [some (.ref 1000001), some (.ref 0), some (.ref 116), some (.int (v3 + 6))], [], mT x29.2)) rfl ?_
                            exact fun a b => ih (v3 + 6) x29.2 a b
                          · refine w_go K 1 (c' := (525, [some (.ref 1000001), some (.ref 0), some (.ref 116), some (.int v3)], [.int 0], mT x29.2)) rfl ?_
                            exact w_ret K rfl (fun h => hR _ h _ rfl)
                        · refine w_sw K (fun _ => ?_) (fun _ => ?_)
                          · refine w_go K 5 (c' := (531, [some (.ref 1000001), some (.ref 0), some (.ref 116), some (.int v3)], [.int (v3 + 1), .ref 1000001, .ref 0], mT s)) rfl ?_
                            refine w_ck K (mm_x1 rfl) ?_
                            refine w_go K 4 (c' := (536, [some (.ref 1000001), some (.ref 0), some (.ref 116), some (.int v3)], [.int (v3 + 2), .ref 1000001, .int (xs (ix (v3 + 1))), .ref 0], mT s)) rfl ?_
                            refine w_ck K (mm_x1 rfl) ?_
                            refine w_go K 0 (c' := (537, [some (.ref 1000001), some (.ref 0), some (.ref 116), some (.int v3)], [.int (xs (ix (v3 + 2))), .int (xs (ix (v3 + 1))), .ref 0], mT s)) rfl ?_
                            refine w_join K (fun (x30 : Int32) => mm_fix (mm_X len xs) mm_Y (mm_call (mm_X len xs) mm_Y (d + 70)) (mm_look mc_Law_law) (545, [some (.ref 1000001), some (.ref 0), some (.ref 116), some (.int v3)], [.int x30, .int (xs (ix (v3 + 1))), .ref 0], mT s) = T) (fun K hJ => ?_) (fun x30 h1 h2 => ?_)
                            · refine w_go K 0 (c' := (537, [some (.ref 1000001), some (.ref 0), some (.ref 116), some (.int v3)], [.int (xs (ix (v3 + 2))), .int (xs (ix (v3 + 1))), .ref 0], mT s)) rfl ?_
                              refine w_zeqT K rfl (fun _ => ?_) (fun _ => ?_)
                              · refine w_go K 1 (c' := (545, [some (.ref 1000001), some (.ref 0), some (.ref 116), some (.int v3)], [.int 0, .int (xs (ix (v3 + 1))), .ref 0], mT s)) rfl ?_
                                exact fun _ h => hJ _ h
                              · refine w_go K 2 (c' := (545, [some (.ref 1000001), some (.ref 0), some (.ref 116), some (.int v3)], [.int 1, .int (xs (ix (v3 + 1))), .ref 0], mT s)) rfl ?_
                                exact fun _ h => hJ _ h
                            · revert h1 h2
                              refine w_go K 0 (c' := (545, [some (.ref 1000001), some (.ref 0), some (.ref 116), some (.int v3)], [.int x30, .int (xs (ix (v3 + 1))), .ref 0], mT s)) rfl ?_
                              refine w_callL K (E := f_G_water (xs (ix (v3 + 1))) x30 s) (g := fun (x31 : Int32 × mS) => (some (.int x31.1), mT x31.2)) rfl (m_G_water (len := len) (xs := xs) (d + 67) (xs (ix (v3 + 1))) x30 s) (fun x31 => ?_)
                              refine w_go K 5 (c' := (553, [some (.ref 1000001), some (.ref 0), some (.ref 116), some (.int v3)], [.int (v3 + 1), .ref 1000001, .ref 116, .int x31.1], mT x31.2)) rfl ?_
                              refine w_ck K (mm_x1 rfl) ?_
                              refine w_go K 4 (c' := (558, [some (.ref 1000001), some (.ref 0), some (.ref 116), some (.int v3)], [.int (v3 + 2), .ref 1000001, .int (xs (ix (v3 + 1))), .ref 116, .int x31.1], mT x31.2)) rfl ?_
                              refine w_ck K (mm_x1 rfl) ?_
                              refine w_go K 0 (c' := (559, [some (.ref 1000001), some (.ref 0), some (.ref 116), some (.int v3)], [.int (xs (ix (v3 + 2))), .int (xs (ix (v3 + 1))), .ref 116, .int x31.1], mT x31.2)) rfl ?_
                              refine w_join K (fun (x32 : Int32) => mm_fix (mm_X len xs) mm_Y (mm_call (mm_X len xs) mm_Y (d + 70)) (mm_look mc_Law_law) (567, [some (.ref 1000001), some (.ref 0), some (.ref 116), some (.int v3)], [.int x32, .int (xs (ix (v3 + 1))), .ref 116, .int x31.1], mT x31.2) = T) (fun K hJ => ?_) (fun x32 h1 h2 => ?_)
                              · refine w_go K 0 (c' := (559, [some (.ref 1000001), some (.ref 0), some (.ref 116), some (.int v3)], [.int (xs (ix (v3 + 2))), .int (xs (ix (v3 + 1))), .ref 116, .int x31.1], mT x31.2)) rfl ?_
                                refine w_zeqT K rfl (fun _ => ?_) (fun _ => ?_)
                                · refine w_go K 1 (c' := (567, [some (.ref 1000001), some (.ref 0), some (.ref 116), some (.int v3)], [.int 0, .int (xs (ix (v3 + 1))), .ref 116, .int x31.1], mT x31.2)) rfl ?_
                                  exact fun _ h => hJ _ h
                                · refine w_go K 2 (c' := (567, [some (.ref 1000001), some (.ref 0), some (.ref 116), some (.int v3)], [.int 1, .int (xs (ix (v3 + 1))), .ref 116, .int x31.1], mT x31.2)) rfl ?_
                                  exact fun _ h => hJ _ h
                              · revert h1 h2
                                refine w_go K 0 (c' := (567, [some (.ref 1000001), some (.ref 0), some (.ref 116), some (.int v3)], [.int x32, .int (xs (ix (v3 + 1))), .ref 116, .int x31.1], mT x31.2)) rfl ?_
                                refine w_callL K (E := f_M_water (xs (ix (v3 + 1))) x32 x31.2) (g := fun (x33 : Int32 × mS) => (some (.int x33.1), mT x33.2)) rfl (m_M_water (len := len) (xs := xs) (d + 68) (xs (ix (v3 + 1))) x32 x31.2) (fun x33 => ?_)
                                refine w_go K 0 (c' := (570, [some (.ref 1000001), some (.ref 0), some (.ref 116), some (.int v3)], [.int x33.1, .int x31.1], mT x33.2)) rfl ?_
                                refine w_ieq K rfl (fun _ => ?_) (fun _ => ?_)
                                · refine w_go K 2 (c' := (18, [some (.ref 1000001), some (.ref 0), some (.ref 116), some (.int (v3 + 6))], [], mT x33.2)) rfl ?_
                                  exact fun a b => ih (v3 + 6) x33.2 a b
                                · refine w_go K 1 (c' := (574, [some (.ref 1000001), some (.ref 0), some (.ref 116), some (.int v3)], [.int 0], mT x33.2)) rfl ?_
                                  exact w_ret K rfl (fun h => hR _ h _ rfl)
                          · refine w_sw K (fun _ => ?_) (fun _ => ?_)
                            · refine w_go K 5 (c' := (580, [some (.ref 1000001), some (.ref 0), some (.ref 116), some (.int v3)], [.int (v3 + 1), .ref 1000001, .ref 0], mT s)) rfl ?_
                              refine w_ck K (mm_x1 rfl) ?_
                              refine w_go K 4 (c' := (585, [some (.ref 1000001), some (.ref 0), some (.ref 116), some (.int v3)], [.int (v3 + 2), .ref 1000001, .int (xs (ix (v3 + 1))), .ref 0], mT s)) rfl ?_
                              refine w_ck K (mm_x1 rfl) ?_
                              refine w_go K 4 (c' := (590, [some (.ref 1000001), some (.ref 0), some (.ref 116), some (.int v3)], [.int (v3 + 3), .ref 1000001, .int (xs (ix (v3 + 2))), .int (xs (ix (v3 + 1))), .ref 0], mT s)) rfl ?_
                              refine w_ck K (mm_x1 rfl) ?_
                              refine w_go K 4 (c' := (595, [some (.ref 1000001), some (.ref 0), some (.ref 116), some (.int v3)], [.int (v3 + 4), .ref 1000001, .int (xs (ix (v3 + 3))), .int (xs (ix (v3 + 2))), .int (xs (ix (v3 + 1))), .ref 0], mT s)) rfl ?_
                              refine w_ck K (mm_x1 rfl) ?_
                              refine w_go K 0 (c' := (596, [some (.ref 1000001), some (.ref 0), some (.ref 116), some (.int v3)], [.int (xs (ix (v3 + 4))), .int (xs (ix (v3 + 3))), .int (xs (ix (v3 + 2))), .int (xs (ix (v3 + 1))), .ref 0], mT s)) rfl ?_
                              refine w_callL K (E := f_G_thing (xs (ix (v3 + 1))) (xs (ix (v3 + 2))) (xs (ix (v3 + 3))) (xs (ix (v3 + 4))) s) (g := fun (x34 : Int32 × mS) => (some (.int x34.1), mT x34.2)) rfl (m_G_thing (len := len) (xs := xs) (d + 68) (xs (ix (v3 + 1))) (xs (ix (v3 + 2))) (xs (ix (v3 + 3))) (xs (ix (v3 + 4))) s) (fun x34 => ?_)
                              refine w_go K 5 (c' := (604, [some (.ref 1000001), some (.ref 0), some (.ref 116), some (.int v3)], [.int (v3 + 1), .ref 1000001, .ref 116, .int x34.1], mT x34.2)) rfl ?_
                              refine w_ck K (mm_x1 rfl) ?_
                              refine w_go K 4 (c' := (609, [some (.ref 1000001), some (.ref 0), some (.ref 116), some (.int v3)], [.int (v3 + 2), .ref 1000001, .int (xs (ix (v3 + 1))), .ref 116, .int x34.1], mT x34.2)) rfl ?_
                              refine w_ck K (mm_x1 rfl) ?_
                              refine w_go K 4 (c' := (614, [some (.ref 1000001), some (.ref 0), some (.ref 116), some (.int v3)], [.int (v3 + 3), .ref 1000001, .int (xs (ix (v3 + 2))), .int (xs (ix (v3 + 1))), .ref 116, .int x34.1], mT x34.2)) rfl ?_
                              refine w_ck K (mm_x1 rfl) ?_
                              refine w_go K 4 (c' := (619, [some (.ref 1000001), some (.ref 0), some (.ref 116), some (.int v3)], [.int (v3 + 4), .ref 1000001, .int (xs (ix (v3 + 3))), .int (xs (ix (v3 + 2))), .int (xs (ix (v3 + 1))), .ref 116, .int x34.1], mT x34.2)) rfl ?_
                              refine w_ck K (mm_x1 rfl) ?_
                              refine w_go K 0 (c' := (620, [some (.ref 1000001), some (.ref 0), some (.ref 116), some (.int v3)], [.int (xs (ix (v3 + 4))), .int (xs (ix (v3 + 3))), .int (xs (ix (v3 + 2))), .int (xs (ix (v3 + 1))), .ref 116, .int x34.1], mT x34.2)) rfl ?_
                              refine w_callL K (E := f_M_thing (xs (ix (v3 + 1))) (xs (ix (v3 + 2))) (xs (ix (v3 + 3))) (xs (ix (v3 + 4))) x34.2) (g := fun (x35 : Int32 × mS) => (some (.int x35.1), mT x35.2)) rfl (m_M_thing (len := len) (xs := xs) (d + 67) (xs (ix (v3 + 1))) (xs (ix (v3 + 2))) (xs (ix (v3 + 3))) (xs (ix (v3 + 4))) x34.2) (fun x35 => ?_)
                              refine w_go K 0 (c' := (623, [some (.ref 1000001), some (.ref 0), some (.ref 116), some (.int v3)], [.int x35.1, .int x34.1], mT x35.2)) rfl ?_
                              refine w_ieq K rfl (fun _ => ?_) (fun _ => ?_)
                              · refine w_go K 2 (c' := (18, [some (.ref 1000001), some (.ref 0), some (.ref 116), some (.int (v3 + 6))], [], mT x35.2)) rfl ?_
                                exact fun a b => ih (v3 + 6) x35.2 a b
                              · refine w_go K 1 (c' := (627, [some (.ref 1000001), some (.ref 0), some (.ref 116), some (.int v3)], [.int 0], mT x35.2)) rfl ?_
                                exact w_ret K rfl (fun h => hR _ h _ rfl)
                            · refine w_sw K (fun _ => ?_) (fun _ => ?_)
                              · refine w_go K 5 (c' := (633, [some (.ref 1000001), some (.ref 0), some (.ref 116), some (.int v3)], [.int (v3 + 1), .ref 1000001, .ref 0], mT s)) rfl ?_
                                refine w_ck K (mm_x1 rfl) ?_
                                refine w_go K 4 (c' := (638, [some (.ref 1000001), some (.ref 0), some (.ref 116), some (.int v3)], [.int (v3 + 2), .ref 1000001, .int (xs (ix (v3 + 1))), .ref 0], mT s)) rfl ?_
                                refine w_ck K (mm_x1 rfl) ?_
                                refine w_go K 0 (c' := (639, [some (.ref 1000001), some (.ref 0), some (.ref 116), some (.int v3)], [.int (xs (ix (v3 + 2))), .int (xs (ix (v3 + 1))), .ref 0], mT s)) rfl ?_
                                refine w_join K (fun (x36 : Int32) => mm_fix (mm_X len xs) mm_Y (mm_call (mm_X len xs) mm_Y (d + 70)) (mm_look mc_Law_law) (647, [some (.ref 1000001), some (.ref 0), some (.ref 116), some (.int v3)], [.int x36, .int (xs (ix (v3 + 1))), .ref 0], mT s) = T) (fun K hJ => ?_) (fun x36 h1 h2 => ?_)
                                · refine w_go K 0 (c' := (639, [some (.ref 1000001), some (.ref 0), some (.ref 116), some (.int v3)], [.int (xs (ix (v3 + 2))), .int (xs (ix (v3 + 1))), .ref 0], mT s)) rfl ?_
                                  refine w_zeqT K rfl (fun _ => ?_) (fun _ => ?_)
                                  · refine w_go K 1 (c' := (647, [some (.ref 1000001), some (.ref 0), some (.ref 116), some (.int v3)], [.int 0, .int (xs (ix (v3 + 1))), .ref 0], mT s)) rfl ?_
                                    exact fun _ h => hJ _ h
                                  · refine w_go K 2 (c' := (647, [some (.ref 1000001), some (.ref 0), some (.ref 116), some (.int v3)], [.int 1, .int (xs (ix (v3 + 1))), .ref 0], mT s)) rfl ?_
                                    exact fun _ h => hJ _ h
                                · revert h1 h2
                                  refine w_go K 0 (c' := (647, [some (.ref 1000001), some (.ref 0), some (.ref 116), some (.int v3)], [.int x36, .int (xs (ix (v3 + 1))), .ref 0], mT s)) rfl ?_
                                  refine w_callL K (E := f_G_cut (xs (ix (v3 + 1))) x36 s) (g := fun (x37 : Int32 × mS) => (some (.int x37.1), mT x37.2)) rfl (m_G_cut (len := len) (xs := xs) (d + 68) (xs (ix (v3 + 1))) x36 s) (fun x37 => ?_)
                                  refine w_go K 5 (c' := (655, [some (.ref 1000001), some (.ref 0), some (.ref 116), some (.int v3)], [.int (v3 + 1), .ref 1000001, .ref 116, .int x37.1], mT x37.2)) rfl ?_
                                  refine w_ck K (mm_x1 rfl) ?_
                                  refine w_go K 4 (c' := (660, [some (.ref 1000001), some (.ref 0), some (.ref 116), some (.int v3)], [.int (v3 + 2), .ref 1000001, .int (xs (ix (v3 + 1))), .ref 116, .int x37.1], mT x37.2)) rfl ?_
                                  refine w_ck K (mm_x1 rfl) ?_
                                  refine w_go K 0 (c' := (661, [some (.ref 1000001), some (.ref 0), some (.ref 116), some (.int v3)], [.int (xs (ix (v3 + 2))), .int (xs (ix (v3 + 1))), .ref 116, .int x37.1], mT x37.2)) rfl ?_
                                  refine w_join K (fun (x38 : Int32) => mm_fix (mm_X len xs) mm_Y (mm_call (mm_X len xs) mm_Y (d + 70)) (mm_look mc_Law_law) (669, [some (.ref 1000001), some (.ref 0), some (.ref 116), some (.int v3)], [.int x38, .int (xs (ix (v3 + 1))), .ref 116, .int x37.1], mT x37.2) = T) (fun K hJ => ?_) (fun x38 h1 h2 => ?_)
                                  · refine w_go K 0 (c' := (661, [some (.ref 1000001), some (.ref 0), some (.ref 116), some (.int v3)], [.int (xs (ix (v3 + 2))), .int (xs (ix (v3 + 1))), .ref 116, .int x37.1], mT x37.2)) rfl ?_
                                    refine w_zeqT K rfl (fun _ => ?_) (fun _ => ?_)
                                    · refine w_go K 1 (c' := (669, [some (.ref 1000001), some (.ref 0), some (.ref 116), some (.int v3)], [.int 0, .int (xs (ix (v3 + 1))), .ref 116, .int x37.1], mT x37.2)) rfl ?_
                                      exact fun _ h => hJ _ h
                                    · refine w_go K 2 (c' := (669, [some (.ref 1000001), some (.ref 0), some (.ref 116), some (.int v3)], [.int 1, .int (xs (ix (v3 + 1))), .ref 116, .int x37.1], mT x37.2)) rfl ?_
                                      exact fun _ h => hJ _ h
                                  · revert h1 h2
                                    refine w_go K 0 (c' := (669, [some (.ref 1000001), some (.ref 0), some (.ref 116), some (.int v3)], [.int x38, .int (xs (ix (v3 + 1))), .ref 116, .int x37.1], mT x37.2)) rfl ?_
                                    refine w_callL K (E := f_M_cut (xs (ix (v3 + 1))) x38 x37.2) (g := fun (x39 : Int32 × mS) => (some (.int x39.1), mT x39.2)) rfl (m_M_cut (len := len) (xs := xs) (d + 67) (xs (ix (v3 + 1))) x38 x37.2) (fun x39 => ?_)
                                    refine w_go K 0 (c' := (672, [some (.ref 1000001), some (.ref 0), some (.ref 116), some (.int v3)], [.int x39.1, .int x37.1], mT x39.2)) rfl ?_
                                    refine w_ieq K rfl (fun _ => ?_) (fun _ => ?_)
                                    · refine w_go K 2 (c' := (18, [some (.ref 1000001), some (.ref 0), some (.ref 116), some (.int (v3 + 6))], [], mT x39.2)) rfl ?_
                                      exact fun a b => ih (v3 + 6) x39.2 a b
                                    · refine w_go K 1 (c' := (676, [some (.ref 1000001), some (.ref 0), some (.ref 116), some (.int v3)], [.int 0], mT x39.2)) rfl ?_
                                      exact w_ret K rfl (fun h => hR _ h _ rfl)
                              · refine w_sw K (fun _ => ?_) (fun _ => ?_)
                                · refine w_go K 5 (c' := (682, [some (.ref 1000001), some (.ref 0), some (.ref 116), some (.int v3)], [.int (v3 + 1), .ref 1000001, .ref 0], mT s)) rfl ?_
                                  refine w_ck K (mm_x1 rfl) ?_
                                  refine w_go K 4 (c' := (687, [some (.ref 1000001), some (.ref 0), some (.ref 116), some (.int v3)], [.int (v3 + 2), .ref 1000001, .int (xs (ix (v3 + 1))), .ref 0], mT s)) rfl ?_
                                  refine w_ck K (mm_x1 rfl) ?_
                                  refine w_go K 0 (c' := (688, [some (.ref 1000001), some (.ref 0), some (.ref 116), some (.int v3)], [.int (xs (ix (v3 + 2))), .int (xs (ix (v3 + 1))), .ref 0], mT s)) rfl ?_
                                  refine w_callL K (E := f_G_coin (xs (ix (v3 + 1))) (xs (ix (v3 + 2))) s) (g := fun (x40 : Int32 × mS) => (some (.int x40.1), mT x40.2)) rfl (m_G_coin (len := len) (xs := xs) (d + 67) (xs (ix (v3 + 1))) (xs (ix (v3 + 2))) s) (fun x40 => ?_)
                                  refine w_go K 5 (c' := (696, [some (.ref 1000001), some (.ref 0), some (.ref 116), some (.int v3)], [.int (v3 + 1), .ref 1000001, .ref 116, .int x40.1], mT x40.2)) rfl ?_
                                  refine w_ck K (mm_x1 rfl) ?_
                                  refine w_go K 4 (c' := (701, [some (.ref 1000001), some (.ref 0), some (.ref 116), some (.int v3)], [.int (v3 + 2), .ref 1000001, .int (xs (ix (v3 + 1))), .ref 116, .int x40.1], mT x40.2)) rfl ?_
                                  refine w_ck K (mm_x1 rfl) ?_
                                  refine w_go K 0 (c' := (702, [some (.ref 1000001), some (.ref 0), some (.ref 116), some (.int v3)], [.int (xs (ix (v3 + 2))), .int (xs (ix (v3 + 1))), .ref 116, .int x40.1], mT x40.2)) rfl ?_
                                  refine w_callL K (E := f_M_coin (xs (ix (v3 + 1))) (xs (ix (v3 + 2))) x40.2) (g := fun (x41 : Int32 × mS) => (some (.int x41.1), mT x41.2)) rfl (m_M_coin (len := len) (xs := xs) (d + 67) (xs (ix (v3 + 1))) (xs (ix (v3 + 2))) x40.2) (fun x41 => ?_)
                                  refine w_go K 0 (c' := (705, [some (.ref 1000001), some (.ref 0), some (.ref 116), some (.int v3)], [.int x41.1, .int x40.1], mT x41.2)) rfl ?_
                                  refine w_ieq K rfl (fun _ => ?_) (fun _ => ?_)
                                  · refine w_go K 2 (c' := (18, [some (.ref 1000001), some (.ref 0), some (.ref 116), some (.int (v3 + 6))], [], mT x41.2)) rfl ?_
                                    exact fun a b => ih (v3 + 6) x41.2 a b
                                  · refine w_go K 1 (c' := (709, [some (.ref 1000001), some (.ref 0), some (.ref 116), some (.int v3)], [.int 0], mT x41.2)) rfl ?_
                                    exact w_ret K rfl (fun h => hR _ h _ rfl)
                                · refine w_sw K (fun _ => ?_) (fun _ => ?_)
                                  · refine w_go K 5 (c' := (715, [some (.ref 1000001), some (.ref 0), some (.ref 116), some (.int v3)], [.int (v3 + 1), .ref 1000001, .ref 0], mT s)) rfl ?_
                                    refine w_ck K (mm_x1 rfl) ?_
                                    refine w_go K 4 (c' := (720, [some (.ref 1000001), some (.ref 0), some (.ref 116), some (.int v3)], [.int (v3 + 2), .ref 1000001, .int (xs (ix (v3 + 1))), .ref 0], mT s)) rfl ?_
                                    refine w_ck K (mm_x1 rfl) ?_
                                    refine w_go K 0 (c' := (721, [some (.ref 1000001), some (.ref 0), some (.ref 116), some (.int v3)], [.int (xs (ix (v3 + 2))), .int (xs (ix (v3 + 1))), .ref 0], mT s)) rfl ?_
                                    refine w_join K (fun (x42 : Int32) => mm_fix (mm_X len xs) mm_Y (mm_call (mm_X len xs) mm_Y (d + 70)) (mm_look mc_Law_law) (729, [some (.ref 1000001), some (.ref 0), some (.ref 116), some (.int v3)], [.int x42, .int (xs (ix (v3 + 1))), .ref 0], mT s) = T) (fun K hJ => ?_) (fun x42 h1 h2 => ?_)
                                    · refine w_go K 0 (c' := (721, [some (.ref 1000001), some (.ref 0), some (.ref 116), some (.int v3)], [.int (xs (ix (v3 + 2))), .int (xs (ix (v3 + 1))), .ref 0], mT s)) rfl ?_
                                      refine w_zeqT K rfl (fun _ => ?_) (fun _ => ?_)
                                      · refine w_go K 1 (c' := (729, [some (.ref 1000001), some (.ref 0), some (.ref 116), some (.int v3)], [.int 0, .int (xs (ix (v3 + 1))), .ref 0], mT s)) rfl ?_
                                        exact fun _ h => hJ _ h
                                      · refine w_go K 2 (c' := (729, [some (.ref 1000001), some (.ref 0), some (.ref 116), some (.int v3)], [.int 1, .int (xs (ix (v3 + 1))), .ref 0], mT s)) rfl ?_
                                        exact fun _ h => hJ _ h
                                    · revert h1 h2
                                      refine w_go K 0 (c' := (729, [some (.ref 1000001), some (.ref 0), some (.ref 116), some (.int v3)], [.int x42, .int (xs (ix (v3 + 1))), .ref 0], mT s)) rfl ?_
                                      refine w_callL K (E := f_G_frost (xs (ix (v3 + 1))) x42 s) (g := fun (x43 : Int32 × mS) => (some (.int x43.1), mT x43.2)) rfl (m_G_frost (len := len) (xs := xs) (d + 67) (xs (ix (v3 + 1))) x42 s) (fun x43 => ?_)
                                      refine w_go K 5 (c' := (737, [some (.ref 1000001), some (.ref 0), some (.ref 116), some (.int v3)], [.int (v3 + 1), .ref 1000001, .ref 116, .int x43.1], mT x43.2)) rfl ?_
                                      refine w_ck K (mm_x1 rfl) ?_
                                      refine w_go K 4 (c' := (742, [some (.ref 1000001), some (.ref 0), some (.ref 116), some (.int v3)], [.int (v3 + 2), .ref 1000001, .int (xs (ix (v3 + 1))), .ref 116, .int x43.1], mT x43.2)) rfl ?_
                                      refine w_ck K (mm_x1 rfl) ?_
                                      refine w_go K 0 (c' := (743, [some (.ref 1000001), some (.ref 0), some (.ref 116), some (.int v3)], [.int (xs (ix (v3 + 2))), .int (xs (ix (v3 + 1))), .ref 116, .int x43.1], mT x43.2)) rfl ?_
                                      refine w_join K (fun (x44 : Int32) => mm_fix (mm_X len xs) mm_Y (mm_call (mm_X len xs) mm_Y (d + 70)) (mm_look mc_Law_law) (751, [some (.ref 1000001), some (.ref 0), some (.ref 116), some (.int v3)], [.int x44, .int (xs (ix (v3 + 1))), .ref 116, .int x43.1], mT x43.2) = T) (fun K hJ => ?_) (fun x44 h1 h2 => ?_)
                                      · refine w_go K 0 (c' := (743, [some (.ref 1000001), some (.ref 0), some (.ref 116), some (.int v3)], [.int (xs (ix (v3 + 2))), .int (xs (ix (v3 + 1))), .ref 116, .int x43.1], mT x43.2)) rfl ?_
                                        refine w_zeqT K rfl (fun _ => ?_) (fun _ => ?_)
                                        · refine w_go K 1 (c' := (751, [some (.ref 1000001), some (.ref 0), some (.ref 116), some (.int v3)], [.int 0, .int (xs (ix (v3 + 1))), .ref 116, .int x43.1], mT x43.2)) rfl ?_
                                          exact fun _ h => hJ _ h
                                        · refine w_go K 2 (c' := (751, [some (.ref 1000001), some (.ref 0), some (.ref 116), some (.int v3)], [.int 1, .int (xs (ix (v3 + 1))), .ref 116, .int x43.1], mT x43.2)) rfl ?_
                                          exact fun _ h => hJ _ h
                                      · revert h1 h2
                                        refine w_go K 0 (c' := (751, [some (.ref 1000001), some (.ref 0), some (.ref 116), some (.int v3)], [.int x44, .int (xs (ix (v3 + 1))), .ref 116, .int x43.1], mT x43.2)) rfl ?_
                                        refine w_callL K (E := f_M_frost (xs (ix (v3 + 1))) x44 x43.2) (g := fun (x45 : Int32 × mS) => (some (.int x45.1), mT x45.2)) rfl (m_M_frost (len := len) (xs := xs) (d + 66) (xs (ix (v3 + 1))) x44 x43.2) (fun x45 => ?_)
                                        refine w_go K 0 (c' := (754, [some (.ref 1000001), some (.ref 0), some (.ref 116), some (.int v3)], [.int x45.1, .int x43.1], mT x45.2)) rfl ?_
                                        refine w_ieq K rfl (fun _ => ?_) (fun _ => ?_)
                                        · refine w_go K 2 (c' := (18, [some (.ref 1000001), some (.ref 0), some (.ref 116), some (.int (v3 + 6))], [], mT x45.2)) rfl ?_
                                          exact fun a b => ih (v3 + 6) x45.2 a b
                                        · refine w_go K 1 (c' := (758, [some (.ref 1000001), some (.ref 0), some (.ref 116), some (.int v3)], [.int 0], mT x45.2)) rfl ?_
                                          exact w_ret K rfl (fun h => hR _ h _ rfl)
                                  · refine w_sw K (fun _ => ?_) (fun _ => ?_)
                                    · refine w_go K 5 (c' := (764, [some (.ref 1000001), some (.ref 0), some (.ref 116), some (.int v3)], [.int (v3 + 1), .ref 1000001, .ref 0], mT s)) rfl ?_
                                      refine w_ck K (mm_x1 rfl) ?_
                                      refine w_go K 0 (c' := (765, [some (.ref 1000001), some (.ref 0), some (.ref 116), some (.int v3)], [.int (xs (ix (v3 + 1))), .ref 0], mT s)) rfl ?_
                                      refine w_callL K (E := f_G_steps (xs (ix (v3 + 1))) s) (g := fun (x46 : Int32 × mS) => (some (.int x46.1), mT x46.2)) rfl (m_G_steps (len := len) (xs := xs) (d + 62) (xs (ix (v3 + 1))) s) (fun x46 => ?_)
                                      refine w_go K 5 (c' := (773, [some (.ref 1000001), some (.ref 0), some (.ref 116), some (.int v3)], [.int (v3 + 1), .ref 1000001, .ref 116, .int x46.1], mT x46.2)) rfl ?_
                                      refine w_ck K (mm_x1 rfl) ?_
                                      refine w_go K 0 (c' := (774, [some (.ref 1000001), some (.ref 0), some (.ref 116), some (.int v3)], [.int (xs (ix (v3 + 1))), .ref 116, .int x46.1], mT x46.2)) rfl ?_
                                      refine w_callL K (E := f_M_steps (xs (ix (v3 + 1))) x46.2) (g := fun (x47 : Int32 × mS) => (some (.int x47.1), mT x47.2)) rfl (m_M_steps (len := len) (xs := xs) (d + 63) (xs (ix (v3 + 1))) x46.2) (fun x47 => ?_)
                                      refine w_go K 0 (c' := (777, [some (.ref 1000001), some (.ref 0), some (.ref 116), some (.int v3)], [.int x47.1, .int x46.1], mT x47.2)) rfl ?_
                                      refine w_ieq K rfl (fun _ => ?_) (fun _ => ?_)
                                      · refine w_go K 2 (c' := (18, [some (.ref 1000001), some (.ref 0), some (.ref 116), some (.int (v3 + 6))], [], mT x47.2)) rfl ?_
                                        exact fun a b => ih (v3 + 6) x47.2 a b
                                      · refine w_go K 1 (c' := (781, [some (.ref 1000001), some (.ref 0), some (.ref 116), some (.int v3)], [.int 0], mT x47.2)) rfl ?_
                                        exact w_ret K rfl (fun h => hR _ h _ rfl)
                                    · refine w_sw K (fun _ => ?_) (fun _ => ?_)
                                      · refine w_go K 5 (c' := (787, [some (.ref 1000001), some (.ref 0), some (.ref 116), some (.int v3)], [.int (v3 + 1), .ref 1000001, .ref 0], mT s)) rfl ?_
                                        refine w_ck K (mm_x1 rfl) ?_
                                        refine w_go K 0 (c' := (788, [some (.ref 1000001), some (.ref 0), some (.ref 116), some (.int v3)], [.int (xs (ix (v3 + 1))), .ref 0], mT s)) rfl ?_
                                        refine w_callL K (E := f_G_read (xs (ix (v3 + 1))) s) (g := fun (x48 : Int32 × mS) => (some (.int x48.1), mT x48.2)) rfl (m_G_read (len := len) (xs := xs) (d + 67) (xs (ix (v3 + 1))) s) (fun x48 => ?_)
                                        refine w_go K 5 (c' := (796, [some (.ref 1000001), some (.ref 0), some (.ref 116), some (.int v3)], [.int (v3 + 1), .ref 1000001, .ref 116, .int x48.1], mT x48.2)) rfl ?_
                                        refine w_ck K (mm_x1 rfl) ?_
                                        refine w_go K 0 (c' := (797, [some (.ref 1000001), some (.ref 0), some (.ref 116), some (.int v3)], [.int (xs (ix (v3 + 1))), .ref 116, .int x48.1], mT x48.2)) rfl ?_
                                        refine w_callL K (E := f_M_read (xs (ix (v3 + 1))) x48.2) (g := fun (x49 : Int32 × mS) => (some (.int x49.1), mT x49.2)) rfl (m_M_read (len := len) (xs := xs) (d + 66) (xs (ix (v3 + 1))) x48.2) (fun x49 => ?_)
                                        refine w_go K 0 (c' := (800, [some (.ref 1000001), some (.ref 0), some (.ref 116), some (.int v3)], [.int x49.1, .int x48.1], mT x49.2)) rfl ?_
                                        refine w_ieq K rfl (fun _ => ?_) (fun _ => ?_)
                                        · refine w_go K 2 (c' := (18, [some (.ref 1000001), some (.ref 0), some (.ref 116), some (.int (v3 + 6))], [], mT x49.2)) rfl ?_
                                          exact fun a b => ih (v3 + 6) x49.2 a b
                                        · refine w_go K 1 (c' := (804, [some (.ref 1000001), some (.ref 0), some (.ref 116), some (.int v3)], [.int 0], mT x49.2)) rfl ?_
                                          exact w_ret K rfl (fun h => hR _ h _ rfl)
                                      · refine w_sw K (fun _ => ?_) (fun _ => ?_)
                                        · refine w_go K 5 (c' := (810, [some (.ref 1000001), some (.ref 0), some (.ref 116), some (.int v3)], [.int (v3 + 1), .ref 1000001, .ref 0], mT s)) rfl ?_
                                          refine w_ck K (mm_x1 rfl) ?_
                                          refine w_go K 4 (c' := (815, [some (.ref 1000001), some (.ref 0), some (.ref 116), some (.int v3)], [.int (v3 + 2), .ref 1000001, .int (xs (ix (v3 + 1))), .ref 0], mT s)) rfl ?_
                                          refine w_ck K (mm_x1 rfl) ?_
                                          refine w_go K 4 (c' := (820, [some (.ref 1000001), some (.ref 0), some (.ref 116), some (.int v3)], [.int (v3 + 3), .ref 1000001, .int (xs (ix (v3 + 2))), .int (xs (ix (v3 + 1))), .ref 0], mT s)) rfl ?_
                                          refine w_ck K (mm_x1 rfl) ?_
                                          refine w_go K 0 (c' := (821, [some (.ref 1000001), some (.ref 0), some (.ref 116), some (.int v3)], [.int (xs (ix (v3 + 3))), .int (xs (ix (v3 + 2))), .int (xs (ix (v3 + 1))), .ref 0], mT s)) rfl ?_
                                          refine w_callL K (E := f_G_right (xs (ix (v3 + 1))) (xs (ix (v3 + 2))) (xs (ix (v3 + 3))) s) (g := fun (x50 : Int32 × mS) => (some (.int x50.1), mT x50.2)) rfl (m_G_right (len := len) (xs := xs) (d + 68) (xs (ix (v3 + 1))) (xs (ix (v3 + 2))) (xs (ix (v3 + 3))) s) (fun x50 => ?_)
                                          refine w_go K 5 (c' := (829, [some (.ref 1000001), some (.ref 0), some (.ref 116), some (.int v3)], [.int (v3 + 1), .ref 1000001, .ref 116, .int x50.1], mT x50.2)) rfl ?_
                                          refine w_ck K (mm_x1 rfl) ?_
                                          refine w_go K 4 (c' := (834, [some (.ref 1000001), some (.ref 0), some (.ref 116), some (.int v3)], [.int (v3 + 2), .ref 1000001, .int (xs (ix (v3 + 1))), .ref 116, .int x50.1], mT x50.2)) rfl ?_
                                          refine w_ck K (mm_x1 rfl) ?_
                                          refine w_go K 4 (c' := (839, [some (.ref 1000001), some (.ref 0), some (.ref 116), some (.int v3)], [.int (v3 + 3), .ref 1000001, .int (xs (ix (v3 + 2))), .int (xs (ix (v3 + 1))), .ref 116, .int x50.1], mT x50.2)) rfl ?_
                                          refine w_ck K (mm_x1 rfl) ?_
                                          refine w_go K 0 (c' := (840, [some (.ref 1000001), some (.ref 0), some (.ref 116), some (.int v3)], [.int (xs (ix (v3 + 3))), .int (xs (ix (v3 + 2))), .int (xs (ix (v3 + 1))), .ref 116, .int x50.1], mT x50.2)) rfl ?_
                                          refine w_callL K (E := f_M_right (xs (ix (v3 + 1))) (xs (ix (v3 + 2))) (xs (ix (v3 + 3))) x50.2) (g := fun (x51 : Int32 × mS) => (some (.int x51.1), mT x51.2)) rfl (m_M_right (len := len) (xs := xs) (d + 66) (xs (ix (v3 + 1))) (xs (ix (v3 + 2))) (xs (ix (v3 + 3))) x50.2) (fun x51 => ?_)
                                          refine w_go K 0 (c' := (843, [some (.ref 1000001), some (.ref 0), some (.ref 116), some (.int v3)], [.int x51.1, .int x50.1], mT x51.2)) rfl ?_
                                          refine w_ieq K rfl (fun _ => ?_) (fun _ => ?_)
                                          · refine w_go K 2 (c' := (18, [some (.ref 1000001), some (.ref 0), some (.ref 116), some (.int (v3 + 6))], [], mT x51.2)) rfl ?_
                                            exact fun a b => ih (v3 + 6) x51.2 a b
                                          · refine w_go K 1 (c' := (847, [some (.ref 1000001), some (.ref 0), some (.ref 116), some (.int v3)], [.int 0], mT x51.2)) rfl ?_
                                            exact w_ret K rfl (fun h => hR _ h _ rfl)
                                        · refine w_sw K (fun _ => ?_) (fun _ => ?_)
                                          · refine w_go K 5 (c' := (853, [some (.ref 1000001), some (.ref 0), some (.ref 116), some (.int v3)], [.int (v3 + 1), .ref 1000001, .ref 0], mT s)) rfl ?_
                                            refine w_ck K (mm_x1 rfl) ?_
                                            refine w_go K 4 (c' := (858, [some (.ref 1000001), some (.ref 0), some (.ref 116), some (.int v3)], [.int (v3 + 2), .ref 1000001, .int (xs (ix (v3 + 1))), .ref 0], mT s)) rfl ?_
                                            refine w_ck K (mm_x1 rfl) ?_
                                            refine w_go K 4 (c' := (863, [some (.ref 1000001), some (.ref 0), some (.ref 116), some (.int v3)], [.int (v3 + 3), .ref 1000001, .int (xs (ix (v3 + 2))), .int (xs (ix (v3 + 1))), .ref 0], mT s)) rfl ?_
                                            refine w_ck K (mm_x1 rfl) ?_
                                            refine w_go K 4 (c' := (868, [some (.ref 1000001), some (.ref 0), some (.ref 116), some (.int v3)], [.int (v3 + 4), .ref 1000001, .int (xs (ix (v3 + 3))), .int (xs (ix (v3 + 2))), .int (xs (ix (v3 + 1))), .ref 0], mT s)) rfl ?_
                                            refine w_ck K (mm_x1 rfl) ?_
                                            refine w_go K 0 (c' := (869, [some (.ref 1000001), some (.ref 0), some (.ref 116), some (.int v3)], [.int (xs (ix (v3 + 4))), .int (xs (ix (v3 + 3))), .int (xs (ix (v3 + 2))), .int (xs (ix (v3 + 1))), .ref 0], mT s)) rfl ?_
                                            refine w_callL K (E := f_G_bill (xs (ix (v3 + 1))) (xs (ix (v3 + 2))) (xs (ix (v3 + 3))) (xs (ix (v3 + 4))) s) (g := fun (x52 : Int64 × mS) => (some (.long x52.1), mT x52.2)) rfl (m_G_bill (len := len) (xs := xs) (d + 63) (xs (ix (v3 + 1))) (xs (ix (v3 + 2))) (xs (ix (v3 + 3))) (xs (ix (v3 + 4))) s) (fun x52 => ?_)
                                            refine w_go K 5 (c' := (877, [some (.ref 1000001), some (.ref 0), some (.ref 116), some (.int v3)], [.int (v3 + 1), .ref 1000001, .ref 116, .long x52.1], mT x52.2)) rfl ?_
                                            refine w_ck K (mm_x1 rfl) ?_
                                            refine w_go K 4 (c' := (882, [some (.ref 1000001), some (.ref 0), some (.ref 116), some (.int v3)], [.int (v3 + 2), .ref 1000001, .int (xs (ix (v3 + 1))), .ref 116, .long x52.1], mT x52.2)) rfl ?_
                                            refine w_ck K (mm_x1 rfl) ?_
                                            refine w_go K 4 (c' := (887, [some (.ref 1000001), some (.ref 0), some (.ref 116), some (.int v3)], [.int (v3 + 3), .ref 1000001, .int (xs (ix (v3 + 2))), .int (xs (ix (v3 + 1))), .ref 116, .long x52.1], mT x52.2)) rfl ?_
                                            refine w_ck K (mm_x1 rfl) ?_
                                            refine w_go K 4 (c' := (892, [some (.ref 1000001), some (.ref 0), some (.ref 116), some (.int v3)], [.int (v3 + 4), .ref 1000001, .int (xs (ix (v3 + 3))), .int (xs (ix (v3 + 2))), .int (xs (ix (v3 + 1))), .ref 116, .long x52.1], mT x52.2)) rfl ?_
                                            refine w_ck K (mm_x1 rfl) ?_
                                            refine w_go K 0 (c' := (893, [some (.ref 1000001), some (.ref 0), some (.ref 116), some (.int v3)], [.int (xs (ix (v3 + 4))), .int (xs (ix (v3 + 3))), .int (xs (ix (v3 + 2))), .int (xs (ix (v3 + 1))), .ref 116, .long x52.1], mT x52.2)) rfl ?_
                                            refine w_callL K (E := f_M_bill (xs (ix (v3 + 1))) (xs (ix (v3 + 2))) (xs (ix (v3 + 3))) (xs (ix (v3 + 4))) x52.2) (g := fun (x53 : Int64 × mS) => (some (.long x53.1), mT x53.2)) rfl (m_M_bill (len := len) (xs := xs) (d + 63) (xs (ix (v3 + 1))) (xs (ix (v3 + 2))) (xs (ix (v3 + 3))) (xs (ix (v3 + 4))) x52.2) (fun x53 => ?_)
                                            refine w_go K 1 (c' := (897, [some (.ref 1000001), some (.ref 0), some (.ref 116), some (.int v3)], [.int (lg_cmp x52.1 x53.1)], mT x53.2)) rfl ?_
                                            refine w_zeq K rfl (fun _ => ?_) (fun _ => ?_)
                                            · refine w_go K 2 (c' := (18, [some (.ref 1000001), some (.ref 0), some (.ref 116), some (.int (v3 + 6))], [], mT x53.2)) rfl ?_
                                              exact fun a b => ih (v3 + 6) x53.2 a b
                                            · refine w_go K 1 (c' := (901, [some (.ref 1000001), some (.ref 0), some (.ref 116), some (.int v3)], [.int 0], mT x53.2)) rfl ?_
                                              exact w_ret K rfl (fun h => hR _ h _ rfl)
                                          · refine w_sw K (fun _ => ?_) (fun _ => ?_)
                                            · refine w_go K 5 (c' := (907, [some (.ref 1000001), some (.ref 0), some (.ref 116), some (.int v3)], [.int (v3 + 1), .ref 1000001, .ref 0], mT s)) rfl ?_
                                              refine w_ck K (mm_x1 rfl) ?_
                                              refine w_go K 4 (c' := (912, [some (.ref 1000001), some (.ref 0), some (.ref 116), some (.int v3)], [.int (v3 + 2), .ref 1000001, .int (xs (ix (v3 + 1))), .ref 0], mT s)) rfl ?_
                                              refine w_ck K (mm_x1 rfl) ?_
                                              refine w_go K 0 (c' := (913, [some (.ref 1000001), some (.ref 0), some (.ref 116), some (.int v3)], [.int (xs (ix (v3 + 2))), .int (xs (ix (v3 + 1))), .ref 0], mT s)) rfl ?_
                                              refine w_callL K (E := f_G_sell (xs (ix (v3 + 1))) (xs (ix (v3 + 2))) s) (g := fun (x54 : Int32 × mS) => (some (.int x54.1), mT x54.2)) rfl (m_G_sell (len := len) (xs := xs) (d + 68) (xs (ix (v3 + 1))) (xs (ix (v3 + 2))) s) (fun x54 => ?_)
                                              refine w_go K 5 (c' := (921, [some (.ref 1000001), some (.ref 0), some (.ref 116), some (.int v3)], [.int (v3 + 1), .ref 1000001, .ref 116, .int x54.1], mT x54.2)) rfl ?_
                                              refine w_ck K (mm_x1 rfl) ?_
                                              refine w_go K 4 (c' := (926, [some (.ref 1000001), some (.ref 0), some (.ref 116), some (.int v3)], [.int (v3 + 2), .ref 1000001, .int (xs (ix (v3 + 1))), .ref 116, .int x54.1], mT x54.2)) rfl ?_
                                              refine w_ck K (mm_x1 rfl) ?_
                                              refine w_go K 0 (c' := (927, [some (.ref 1000001), some (.ref 0), some (.ref 116), some (.int v3)], [.int (xs (ix (v3 + 2))), .int (xs (ix (v3 + 1))), .ref 116, .int x54.1], mT x54.2)) rfl ?_
                                              refine w_callL K (E := f_M_sell (xs (ix (v3 + 1))) (xs (ix (v3 + 2))) x54.2) (g := fun (x55 : Int32 × mS) => (some (.int x55.1), mT x55.2)) rfl (m_M_sell (len := len) (xs := xs) (d + 68) (xs (ix (v3 + 1))) (xs (ix (v3 + 2))) x54.2) (fun x55 => ?_)
                                              refine w_go K 0 (c' := (930, [some (.ref 1000001), some (.ref 0), some (.ref 116), some (.int v3)], [.int x55.1, .int x54.1], mT x55.2)) rfl ?_
                                              refine w_ieq K rfl (fun _ => ?_) (fun _ => ?_)
                                              · refine w_go K 2 (c' := (18, [some (.ref 1000001), some (.ref 0), some (.ref 116), some (.int (v3 + 6))], [], mT x55.2)) rfl ?_
                                                exact fun a b => ih (v3 + 6) x55.2 a b
                                              · refine w_go K 1 (c' := (934, [some (.ref 1000001), some (.ref 0), some (.ref 116), some (.int v3)], [.int 0], mT x55.2)) rfl ?_
                                                exact w_ret K rfl (fun h => hR _ h _ rfl)
                                            · refine w_sw K (fun _ => ?_) (fun _ => ?_)
                                              · refine w_go K 5 (c' := (940, [some (.ref 1000001), some (.ref 0), some (.ref 116), some (.int v3)], [.int (v3 + 1), .ref 1000001, .ref 0], mT s)) rfl ?_
                                                refine w_ck K (mm_x1 rfl) ?_
                                                refine w_go K 4 (c' := (945, [some (.ref 1000001), some (.ref 0), some (.ref 116), some (.int v3)], [.int (v3 + 2), .ref 1000001, .int (xs (ix (v3 + 1))), .ref 0], mT s)) rfl ?_
                                                refine w_ck K (mm_x1 rfl) ?_
                                                refine w_go K 4 (c' := (950, [some (.ref 1000001), some (.ref 0), some (.ref 116), some (.int v3)], [.int (v3 + 3), .ref 1000001, .int (xs (ix (v3 + 2))), .int (xs (ix (v3 + 1))), .ref 0], mT s)) rfl ?_
                                                refine w_ck K (mm_x1 rfl) ?_
                                                refine w_go K 4 (c' := (955, [some (.ref 1000001), some (.ref 0), some (.ref 116), some (.int v3)], [.int (v3 + 4), .ref 1000001, .int (xs (ix (v3 + 3))), .int (xs (ix (v3 + 2))), .int (xs (ix (v3 + 1))), .ref 0], mT s)) rfl ?_
                                                refine w_ck K (mm_x1 rfl) ?_
                                                refine w_go K 4 (c' := (960, [some (.ref 1000001), some (.ref 0), some (.ref 116), some (.int v3)], [.int (v3 + 5), .ref 1000001, .int (xs (ix (v3 + 4))), .int (xs (ix (v3 + 3))), .int (xs (ix (v3 + 2))), .int (xs (ix (v3 + 1))), .ref 0], mT s)) rfl ?_
                                                refine w_ck K (mm_x1 rfl) ?_
                                                refine w_go K 0 (c' := (961, [some (.ref 1000001), some (.ref 0), some (.ref 116), some (.int v3)], [.int (xs (ix (v3 + 5))), .int (xs (ix (v3 + 4))), .int (xs (ix (v3 + 3))), .int (xs (ix (v3 + 2))), .int (xs (ix (v3 + 1))), .ref 0], mT s)) rfl ?_
                                                refine w_callL K (E := f_G_feed (xs (ix (v3 + 1))) (xs (ix (v3 + 2))) (xs (ix (v3 + 3))) (xs (ix (v3 + 4))) (xs (ix (v3 + 5))) s) (g := fun (x56 : Int32 × mS) => (some (.int x56.1), mT x56.2)) rfl (m_G_feed (len := len) (xs := xs) (d + 68) (xs (ix (v3 + 1))) (xs (ix (v3 + 2))) (xs (ix (v3 + 3))) (xs (ix (v3 + 4))) (xs (ix (v3 + 5))) s) (fun x56 => ?_)
                                                refine w_go K 5 (c' := (969, [some (.ref 1000001), some (.ref 0), some (.ref 116), some (.int v3)], [.int (v3 + 1), .ref 1000001, .ref 116, .int x56.1], mT x56.2)) rfl ?_
                                                refine w_ck K (mm_x1 rfl) ?_
                                                refine w_go K 4 (c' := (974, [some (.ref 1000001), some (.ref 0), some (.ref 116), some (.int v3)], [.int (v3 + 2), .ref 1000001, .int (xs (ix (v3 + 1))), .ref 116, .int x56.1], mT x56.2)) rfl ?_
                                                refine w_ck K (mm_x1 rfl) ?_
                                                refine w_go K 4 (c' := (979, [some (.ref 1000001), some (.ref 0), some (.ref 116), some (.int v3)], [.int (v3 + 3), .ref 1000001, .int (xs (ix (v3 + 2))), .int (xs (ix (v3 + 1))), .ref 116, .int x56.1], mT x56.2)) rfl ?_
                                                refine w_ck K (mm_x1 rfl) ?_
                                                refine w_go K 4 (c' := (984, [some (.ref 1000001), some (.ref 0), some (.ref 116), some (.int v3)], [.int (v3 + 4), .ref 1000001, .int (xs (ix (v3 + 3))), .int (xs (ix (v3 + 2))), .int (xs (ix (v3 + 1))), .ref 116, .int x56.1], mT x56.2)) rfl ?_
                                                refine w_ck K (mm_x1 rfl) ?_
                                                refine w_go K 4 (c' := (989, [some (.ref 1000001), some (.ref 0), some (.ref 116), some (.int v3)], [.int (v3 + 5), .ref 1000001, .int (xs (ix (v3 + 4))), .int (xs (ix (v3 + 3))), .int (xs (ix (v3 + 2))), .int (xs (ix (v3 + 1))), .ref 116, .int x56.1], mT x56.2)) rfl ?_
                                                refine w_ck K (mm_x1 rfl) ?_
                                                refine w_go K 0 (c' := (990, [some (.ref 1000001), some (.ref 0), some (.ref 116), some (.int v3)], [.int (xs (ix (v3 + 5))), .int (xs (ix (v3 + 4))), .int (xs (ix (v3 + 3))), .int (xs (ix (v3 + 2))), .int (xs (ix (v3 + 1))), .ref 116, .int x56.1], mT x56.2)) rfl ?_
                                                refine w_callL K (E := f_M_feed (xs (ix (v3 + 1))) (xs (ix (v3 + 2))) (xs (ix (v3 + 3))) (xs (ix (v3 + 4))) (xs (ix (v3 + 5))) x56.2) (g := fun (x57 : Int32 × mS) => (some (.int x57.1), mT x57.2)) rfl (m_M_feed (len := len) (xs := xs) (d + 69) (xs (ix (v3 + 1))) (xs (ix (v3 + 2))) (xs (ix (v3 + 3))) (xs (ix (v3 + 4))) (xs (ix (v3 + 5))) x56.2) (fun x57 => ?_)
                                                refine w_go K 0 (c' := (993, [some (.ref 1000001), some (.ref 0), some (.ref 116), some (.int v3)], [.int x57.1, .int x56.1], mT x57.2)) rfl ?_
                                                refine w_ieq K rfl (fun _ => ?_) (fun _ => ?_)
                                                · refine w_go K 2 (c' := (18, [some (.ref 1000001), some (.ref 0), some (.ref 116), some (.int (v3 + 6))], [], mT x57.2)) rfl ?_
                                                  exact fun a b => ih (v3 + 6) x57.2 a b
                                                · refine w_go K 1 (c' := (997, [some (.ref 1000001), some (.ref 0), some (.ref 116), some (.int v3)], [.int 0], mT x57.2)) rfl ?_
                                                  exact w_ret K rfl (fun h => hR _ h _ rfl)
                                              · refine w_sw K (fun _ => ?_) (fun _ => ?_)
                                                · refine w_go K 5 (c' := (1003, [some (.ref 1000001), some (.ref 0), some (.ref 116), some (.int v3)], [.int (v3 + 1), .ref 1000001, .ref 0], mT s)) rfl ?_
                                                  refine w_ck K (mm_x1 rfl) ?_
                                                  refine w_go K 0 (c' := (1004, [some (.ref 1000001), some (.ref 0), some (.ref 116), some (.int v3)], [.int (xs (ix (v3 + 1))), .ref 0], mT s)) rfl ?_
                                                  refine w_callL K (E := f_G_end (xs (ix (v3 + 1))) s) (g := fun (x58 : Int32 × mS) => (some (.int x58.1), mT x58.2)) rfl (m_G_end (len := len) (xs := xs) (d + 68) (xs (ix (v3 + 1))) s) (fun x58 => ?_)
                                                  refine w_go K 5 (c' := (1012, [some (.ref 1000001), some (.ref 0), some (.ref 116), some (.int v3)], [.int (v3 + 1), .ref 1000001, .ref 116, .int x58.1], mT x58.2)) rfl ?_
                                                  refine w_ck K (mm_x1 rfl) ?_
                                                  refine w_go K 0 (c' := (1013, [some (.ref 1000001), some (.ref 0), some (.ref 116), some (.int v3)], [.int (xs (ix (v3 + 1))), .ref 116, .int x58.1], mT x58.2)) rfl ?_
                                                  refine w_callL K (E := f_M_end (xs (ix (v3 + 1))) x58.2) (g := fun (x59 : Int32 × mS) => (some (.int x59.1), mT x59.2)) rfl (m_M_end (len := len) (xs := xs) (d + 68) (xs (ix (v3 + 1))) x58.2) (fun x59 => ?_)
                                                  refine w_go K 0 (c' := (1016, [some (.ref 1000001), some (.ref 0), some (.ref 116), some (.int v3)], [.int x59.1, .int x58.1], mT x59.2)) rfl ?_
                                                  refine w_ieq K rfl (fun _ => ?_) (fun _ => ?_)
                                                  · refine w_go K 2 (c' := (18, [some (.ref 1000001), some (.ref 0), some (.ref 116), some (.int (v3 + 6))], [], mT x59.2)) rfl ?_
                                                    exact fun a b => ih (v3 + 6) x59.2 a b
                                                  · refine w_go K 1 (c' := (1020, [some (.ref 1000001), some (.ref 0), some (.ref 116), some (.int v3)], [.int 0], mT x59.2)) rfl ?_
                                                    exact w_ret K rfl (fun h => hR _ h _ rfl)
                                                · refine w_sw K (fun _ => ?_) (fun _ => ?_)
                                                  · refine w_go K 5 (c' := (1026, [some (.ref 1000001), some (.ref 0), some (.ref 116), some (.int v3)], [.int (v3 + 1), .ref 1000001, .ref 0], mT s)) rfl ?_
                                                    refine w_ck K (mm_x1 rfl) ?_
                                                    refine w_go K 4 (c' := (1031, [some (.ref 1000001), some (.ref 0), some (.ref 116), some (.int v3)], [.int (v3 + 2), .ref 1000001, .int (xs (ix (v3 + 1))), .ref 0], mT s)) rfl ?_
                                                    refine w_ck K (mm_x1 rfl) ?_
                                                    refine w_go K 0 (c' := (1032, [some (.ref 1000001), some (.ref 0), some (.ref 116), some (.int v3)], [.int (xs (ix (v3 + 2))), .int (xs (ix (v3 + 1))), .ref 0], mT s)) rfl ?_
                                                    refine w_callL K (E := f_G_act (xs (ix (v3 + 1))) (xs (ix (v3 + 2))) s) (g := fun (x60 : Int32 × mS) => (some (.int x60.1), mT x60.2)) rfl (m_G_act (len := len) (xs := xs) (d + 62) (xs (ix (v3 + 1))) (xs (ix (v3 + 2))) s) (fun x60 => ?_)
                                                    refine w_go K 5 (c' := (1040, [some (.ref 1000001), some (.ref 0), some (.ref 116), some (.int v3)], [.int (v3 + 1), .ref 1000001, .ref 116, .int x60.1], mT x60.2)) rfl ?_
                                                    refine w_ck K (mm_x1 rfl) ?_
                                                    refine w_go K 4 (c' := (1045, [some (.ref 1000001), some (.ref 0), some (.ref 116), some (.int v3)], [.int (v3 + 2), .ref 1000001, .int (xs (ix (v3 + 1))), .ref 116, .int x60.1], mT x60.2)) rfl ?_
                                                    refine w_ck K (mm_x1 rfl) ?_
                                                    refine w_go K 0 (c' := (1046, [some (.ref 1000001), some (.ref 0), some (.ref 116), some (.int v3)], [.int (xs (ix (v3 + 2))), .int (xs (ix (v3 + 1))), .ref 116, .int x60.1], mT x60.2)) rfl ?_
                                                    refine w_callL K (E := f_M_act (xs (ix (v3 + 1))) (xs (ix (v3 + 2))) x60.2) (g := fun (x61 : Int32 × mS) => (some (.int x61.1), mT x61.2)) rfl (m_M_act (len := len) (xs := xs) (d + 0) (xs (ix (v3 + 1))) (xs (ix (v3 + 2))) x60.2) (fun x61 => ?_)
                                                    refine w_go K 0 (c' := (1049, [some (.ref 1000001), some (.ref 0), some (.ref 116), some (.int v3)], [.int x61.1, .int x60.1], mT x61.2)) rfl ?_
                                                    refine w_ieq K rfl (fun _ => ?_) (fun _ => ?_)
                                                    · refine w_go K 2 (c' := (18, [some (.ref 1000001), some (.ref 0), some (.ref 116), some (.int (v3 + 6))], [], mT x61.2)) rfl ?_
                                                      exact fun a b => ih (v3 + 6) x61.2 a b
                                                    · refine w_go K 1 (c' := (1053, [some (.ref 1000001), some (.ref 0), some (.ref 116), some (.int v3)], [.int 0], mT x61.2)) rfl ?_
                                                      exact w_ret K rfl (fun h => hR _ h _ rfl)
                                                  · refine w_sw K (fun _ => ?_) (fun _ => ?_)
                                                    · refine w_go K 5 (c' := (1059, [some (.ref 1000001), some (.ref 0), some (.ref 116), some (.int v3)], [.int (v3 + 1), .ref 1000001, .ref 0], mT s)) rfl ?_
                                                      refine w_ck K (mm_x1 rfl) ?_
                                                      refine w_go K 0 (c' := (1060, [some (.ref 1000001), some (.ref 0), some (.ref 116), some (.int v3)], [.int (xs (ix (v3 + 1))), .ref 0], mT s)) rfl ?_
                                                      refine w_callL K (E := f_G_fault (xs (ix (v3 + 1))) s) (g := fun (x62 : Int32) => (some (.int x62), mT s)) rfl (m_G_fault (len := len) (xs := xs) (d + 69) (xs (ix (v3 + 1))) s) (fun x62 => ?_)
                                                      refine w_go K 5 (c' := (1068, [some (.ref 1000001), some (.ref 0), some (.ref 116), some (.int v3)], [.int (v3 + 1), .ref 1000001, .ref 116, .int x62], mT s)) rfl ?_
                                                      refine w_ck K (mm_x1 rfl) ?_
                                                      refine w_go K 0 (c' := (1069, [some (.ref 1000001), some (.ref 0), some (.ref 116), some (.int v3)], [.int (xs (ix (v3 + 1))), .ref 116, .int x62], mT s)) rfl ?_
                                                      refine w_callL K (E := f_M_fault (xs (ix (v3 + 1))) s) (g := fun (x63 : Int32) => (some (.int x63), mT s)) rfl (m_M_fault (len := len) (xs := xs) (d + 69) (xs (ix (v3 + 1))) s) (fun x63 => ?_)
                                                      refine w_go K 0 (c' := (1072, [some (.ref 1000001), some (.ref 0), some (.ref 116), some (.int v3)], [.int x63, .int x62], mT s)) rfl ?_
                                                      refine w_ieq K rfl (fun _ => ?_) (fun _ => ?_)
                                                      · refine w_go K 2 (c' := (18, [some (.ref 1000001), some (.ref 0), some (.ref 116), some (.int (v3 + 6))], [], mT s)) rfl ?_
                                                        exact fun a b => ih (v3 + 6) s a b
                                                      · refine w_go K 1 (c' := (1076, [some (.ref 1000001), some (.ref 0), some (.ref 116), some (.int v3)], [.int 0], mT s)) rfl ?_
                                                        exact w_ret K rfl (fun h => hR _ h _ rfl)
                                                    · refine w_sw K (fun _ => ?_) (fun _ => ?_)
                                                      · refine w_go K 5 (c' := (1082, [some (.ref 1000001), some (.ref 0), some (.ref 116), some (.int v3)], [.int (v3 + 1), .ref 1000001, .ref 0], mT s)) rfl ?_
                                                        refine w_ck K (mm_x1 rfl) ?_
                                                        refine w_go K 4 (c' := (1087, [some (.ref 1000001), some (.ref 0), some (.ref 116), some (.int v3)], [.int (v3 + 2), .ref 1000001, .int (xs (ix (v3 + 1))), .ref 0], mT s)) rfl ?_
                                                        refine w_ck K (mm_x1 rfl) ?_
                                                        refine w_go K 4 (c' := (1092, [some (.ref 1000001), some (.ref 0), some (.ref 116), some (.int v3)], [.int (v3 + 3), .ref 1000001, .int (xs (ix (v3 + 2))), .int (xs (ix (v3 + 1))), .ref 0], mT s)) rfl ?_
                                                        refine w_ck K (mm_x1 rfl) ?_
                                                        refine w_go K 4 (c' := (1097, [some (.ref 1000001), some (.ref 0), some (.ref 116), some (.int v3)], [.int (v3 + 4), .ref 1000001, .int (xs (ix (v3 + 3))), .int (xs (ix (v3 + 2))), .int (xs (ix (v3 + 1))), .ref 0], mT s)) rfl ?_
                                                        refine w_ck K (mm_x1 rfl) ?_
                                                        refine w_go K 0 (c' := (1098, [some (.ref 1000001), some (.ref 0), some (.ref 116), some (.int v3)], [.int (xs (ix (v3 + 4))), .int (xs (ix (v3 + 3))), .int (xs (ix (v3 + 2))), .int (xs (ix (v3 + 1))), .ref 0], mT s)) rfl ?_
                                                        refine w_callL K (E := f_G_due (xs (ix (v3 + 1))) (xs (ix (v3 + 2))) (xs (ix (v3 + 3))) (xs (ix (v3 + 4))) s) (g := fun (x64 : Int32 × mS) => (some (.int x64.1), mT x64.2)) rfl (m_G_due (len := len) (xs := xs) (d + 64) (xs (ix (v3 + 1))) (xs (ix (v3 + 2))) (xs (ix (v3 + 3))) (xs (ix (v3 + 4))) s) (fun x64 => ?_)
                                                        refine w_go K 5 (c' := (1106, [some (.ref 1000001), some (.ref 0), some (.ref 116), some (.int v3)], [.int (v3 + 1), .ref 1000001, .ref 116, .int x64.1], mT x64.2)) rfl ?_
                                                        refine w_ck K (mm_x1 rfl) ?_
                                                        refine w_go K 4 (c' := (1111, [some (.ref 1000001), some (.ref 0), some (.ref 116), some (.int v3)], [.int (v3 + 2), .ref 1000001, .int (xs (ix (v3 + 1))), .ref 116, .int x64.1], mT x64.2)) rfl ?_
                                                        refine w_ck K (mm_x1 rfl) ?_
                                                        refine w_go K 4 (c' := (1116, [some (.ref 1000001), some (.ref 0), some (.ref 116), some (.int v3)], [.int (v3 + 3), .ref 1000001, .int (xs (ix (v3 + 2))), .int (xs (ix (v3 + 1))), .ref 116, .int x64.1], mT x64.2)) rfl ?_
                                                        refine w_ck K (mm_x1 rfl) ?_
                                                        refine w_go K 4 (c' := (1121, [some (.ref 1000001), some (.ref 0), some (.ref 116), some (.int v3)], [.int (v3 + 4), .ref 1000001, .int (xs (ix (v3 + 3))), .int (xs (ix (v3 + 2))), .int (xs (ix (v3 + 1))), .ref 116, .int x64.1], mT x64.2)) rfl ?_
                                                        refine w_ck K (mm_x1 rfl) ?_
                                                        refine w_go K 0 (c' := (1122, [some (.ref 1000001), some (.ref 0), some (.ref 116), some (.int v3)], [.int (xs (ix (v3 + 4))), .int (xs (ix (v3 + 3))), .int (xs (ix (v3 + 2))), .int (xs (ix (v3 + 1))), .ref 116, .int x64.1], mT x64.2)) rfl ?_
                                                        refine w_callL K (E := f_M_due (xs (ix (v3 + 1))) (xs (ix (v3 + 2))) (xs (ix (v3 + 3))) (xs (ix (v3 + 4))) x64.2) (g := fun (x65 : Int32 × mS) => (some (.int x65.1), mT x65.2)) rfl (m_M_due (len := len) (xs := xs) (d + 64) (xs (ix (v3 + 1))) (xs (ix (v3 + 2))) (xs (ix (v3 + 3))) (xs (ix (v3 + 4))) x64.2) (fun x65 => ?_)
                                                        refine w_go K 0 (c' := (1125, [some (.ref 1000001), some (.ref 0), some (.ref 116), some (.int v3)], [.int x65.1, .int x64.1], mT x65.2)) rfl ?_
                                                        refine w_ieq K rfl (fun _ => ?_) (fun _ => ?_)
                                                        · refine w_go K 2 (c' := (18, [some (.ref 1000001), some (.ref 0), some (.ref 116), some (.int (v3 + 6))], [], mT x65.2)) rfl ?_
                                                          exact fun a b => ih (v3 + 6) x65.2 a b
                                                        · refine w_go K 1 (c' := (1129, [some (.ref 1000001), some (.ref 0), some (.ref 116), some (.int v3)], [.int 0], mT x65.2)) rfl ?_
                                                          exact w_ret K rfl (fun h => hR _ h _ rfl)
                                                      · refine w_sw K (fun _ => ?_) (fun _ => ?_)
                                                        · refine w_go K 5 (c' := (1135, [some (.ref 1000001), some (.ref 0), some (.ref 116), some (.int v3)], [.int (v3 + 1), .ref 1000001, .ref 0], mT s)) rfl ?_
                                                          refine w_ck K (mm_x1 rfl) ?_
                                                          refine w_go K 0 (c' := (1136, [some (.ref 1000001), some (.ref 0), some (.ref 116), some (.int v3)], [.int (xs (ix (v3 + 1))), .ref 0], mT s)) rfl ?_
                                                          refine w_callL K (E := f_G_tries (xs (ix (v3 + 1))) s) (g := fun (x66 : Int32 × mS) => (some (.int x66.1), mT x66.2)) rfl (m_G_tries (len := len) (xs := xs) (d + 64) (xs (ix (v3 + 1))) s) (fun x66 => ?_)
                                                          refine w_go K 5 (c' := (1144, [some (.ref 1000001), some (.ref 0), some (.ref 116), some (.int v3)], [.int (v3 + 1), .ref 1000001, .ref 116, .int x66.1], mT x66.2)) rfl ?_
                                                          refine w_ck K (mm_x1 rfl) ?_
                                                          refine w_go K 0 (c' := (1145, [some (.ref 1000001), some (.ref 0), some (.ref 116), some (.int v3)], [.int (xs (ix (v3 + 1))), .ref 116, .int x66.1], mT x66.2)) rfl ?_
                                                          refine w_callL K (E := f_M_tries (xs (ix (v3 + 1))) x66.2) (g := fun (x67 : Int32 × mS) => (some (.int x67.1), mT x67.2)) rfl (m_M_tries (len := len) (xs := xs) (d + 64) (xs (ix (v3 + 1))) x66.2) (fun x67 => ?_)
                                                          refine w_go K 0 (c' := (1148, [some (.ref 1000001), some (.ref 0), some (.ref 116), some (.int v3)], [.int x67.1, .int x66.1], mT x67.2)) rfl ?_
                                                          refine w_ieq K rfl (fun _ => ?_) (fun _ => ?_)
                                                          · refine w_go K 2 (c' := (18, [some (.ref 1000001), some (.ref 0), some (.ref 116), some (.int (v3 + 6))], [], mT x67.2)) rfl ?_
                                                            exact fun a b => ih (v3 + 6) x67.2 a b
                                                          · refine w_go K 1 (c' := (1152, [some (.ref 1000001), some (.ref 0), some (.ref 116), some (.int v3)], [.int 0], mT x67.2)) rfl ?_
                                                            exact w_ret K rfl (fun h => hR _ h _ rfl)
                                                        · refine w_sw K (fun _ => ?_) (fun _ => ?_)
                                                          · refine w_go K 5 (c' := (1158, [some (.ref 1000001), some (.ref 0), some (.ref 116), some (.int v3)], [.int (v3 + 1), .ref 1000001, .ref 0], mT s)) rfl ?_
                                                            refine w_ck K (mm_x1 rfl) ?_
                                                            refine w_go K 0 (c' := (1159, [some (.ref 1000001), some (.ref 0), some (.ref 116), some (.int v3)], [.int (xs (ix (v3 + 1))), .ref 0], mT s)) rfl ?_
                                                            refine w_callL K (E := f_G_share (xs (ix (v3 + 1))) s) (g := fun (x68 : Int64 × mS) => (some (.long x68.1), mT x68.2)) rfl (m_G_share (len := len) (xs := xs) (d + 62) (xs (ix (v3 + 1))) s) (fun x68 => ?_)
                                                            refine w_go K 5 (c' := (1167, [some (.ref 1000001), some (.ref 0), some (.ref 116), some (.int v3)], [.int (v3 + 1), .ref 1000001, .ref 116, .long x68.1], mT x68.2)) rfl ?_
                                                            refine w_ck K (mm_x1 rfl) ?_
                                                            refine w_go K 0 (c' := (1168, [some (.ref 1000001), some (.ref 0), some (.ref 116), some (.int v3)], [.int (xs (ix (v3 + 1))), .ref 116, .long x68.1], mT x68.2)) rfl ?_
                                                            refine w_callL K (E := f_M_share (xs (ix (v3 + 1))) x68.2) (g := fun (x69 : Int64 × mS) => (some (.long x69.1), mT x69.2)) rfl (m_M_share (len := len) (xs := xs) (d + 62) (xs (ix (v3 + 1))) x68.2) (fun x69 => ?_)
                                                            refine w_go K 1 (c' := (1172, [some (.ref 1000001), some (.ref 0), some (.ref 116), some (.int v3)], [.int (lg_cmp x68.1 x69.1)], mT x69.2)) rfl ?_
                                                            refine w_zeq K rfl (fun _ => ?_) (fun _ => ?_)
                                                            · refine w_go K 2 (c' := (18, [some (.ref 1000001), some (.ref 0), some (.ref 116), some (.int (v3 + 6))], [], mT x69.2)) rfl ?_
                                                              exact fun a b => ih (v3 + 6) x69.2 a b
                                                            · refine w_go K 1 (c' := (1176, [some (.ref 1000001), some (.ref 0), some (.ref 116), some (.int v3)], [.int 0], mT x69.2)) rfl ?_
                                                              exact w_ret K rfl (fun h => hR _ h _ rfl)
                                                          · refine w_sw K (fun _ => ?_) (fun _ => ?_)
                                                            · refine w_go K 5 (c' := (1182, [some (.ref 1000001), some (.ref 0), some (.ref 116), some (.int v3)], [.int (v3 + 1), .ref 1000001, .ref 0], mT s)) rfl ?_
                                                              refine w_ck K (mm_x1 rfl) ?_
                                                              refine w_go K 4 (c' := (1187, [some (.ref 1000001), some (.ref 0), some (.ref 116), some (.int v3)], [.int (v3 + 2), .ref 1000001, .int (xs (ix (v3 + 1))), .ref 0], mT s)) rfl ?_
                                                              refine w_ck K (mm_x1 rfl) ?_
                                                              refine w_go K 0 (c' := (1188, [some (.ref 1000001), some (.ref 0), some (.ref 116), some (.int v3)], [.int (xs (ix (v3 + 2))), .int (xs (ix (v3 + 1))), .ref 0], mT s)) rfl ?_
                                                              refine w_callL K (E := f_G_at (xs (ix (v3 + 1))) (xs (ix (v3 + 2))) s) (g := fun (x70 : Int32) => (some (.int x70), mT s)) rfl (m_G_at (len := len) (xs := xs) (d + 68) (xs (ix (v3 + 1))) (xs (ix (v3 + 2))) s) (fun x70 => ?_)
                                                              refine w_go K 5 (c' := (1196, [some (.ref 1000001), some (.ref 0), some (.ref 116), some (.int v3)], [.int (v3 + 1), .ref 1000001, .ref 116, .int x70], mT s)) rfl ?_
                                                              refine w_ck K (mm_x1 rfl) ?_
                                                              refine w_go K 4 (c' := (1201, [some (.ref 1000001), some (.ref 0), some (.ref 116), some (.int v3)], [.int (v3 + 2), .ref 1000001, .int (xs (ix (v3 + 1))), .ref 116, .int x70], mT s)) rfl ?_
                                                              refine w_ck K (mm_x1 rfl) ?_
                                                              refine w_go K 0 (c' := (1202, [some (.ref 1000001), some (.ref 0), some (.ref 116), some (.int v3)], [.int (xs (ix (v3 + 2))), .int (xs (ix (v3 + 1))), .ref 116, .int x70], mT s)) rfl ?_
                                                              refine w_callL K (E := f_M_at (xs (ix (v3 + 1))) (xs (ix (v3 + 2))) s) (g := fun (x71 : Int32) => (some (.int x71), mT s)) rfl (m_M_at (len := len) (xs := xs) (d + 67) (xs (ix (v3 + 1))) (xs (ix (v3 + 2))) s) (fun x71 => ?_)
                                                              refine w_go K 0 (c' := (1205, [some (.ref 1000001), some (.ref 0), some (.ref 116), some (.int v3)], [.int x71, .int x70], mT s)) rfl ?_
                                                              refine w_ieq K rfl (fun _ => ?_) (fun _ => ?_)
                                                              · refine w_go K 2 (c' := (18, [some (.ref 1000001), some (.ref 0), some (.ref 116), some (.int (v3 + 6))], [], mT s)) rfl ?_
                                                                exact fun a b => ih (v3 + 6) s a b
                                                              · refine w_go K 1 (c' := (1209, [some (.ref 1000001), some (.ref 0), some (.ref 116), some (.int v3)], [.int 0], mT s)) rfl ?_
                                                                exact w_ret K rfl (fun h => hR _ h _ rfl)
                                                            · refine w_sw K (fun _ => ?_) (fun _ => ?_)
                                                              · refine w_go K 5 (c' := (1215, [some (.ref 1000001), some (.ref 0), some (.ref 116), some (.int v3)], [.int (v3 + 1), .ref 1000001, .ref 0], mT s)) rfl ?_
                                                                refine w_ck K (mm_x1 rfl) ?_
                                                                refine w_go K 4 (c' := (1220, [some (.ref 1000001), some (.ref 0), some (.ref 116), some (.int v3)], [.int (v3 + 2), .ref 1000001, .int (xs (ix (v3 + 1))), .ref 0], mT s)) rfl ?_
                                                                refine w_ck K (mm_x1 rfl) ?_
                                                                refine w_go K 0 (c' := (1221, [some (.ref 1000001), some (.ref 0), some (.ref 116), some (.int v3)], [.int (xs (ix (v3 + 2))), .int (xs (ix (v3 + 1))), .ref 0], mT s)) rfl ?_
                                                                refine w_callL K (E := f_G_of (xs (ix (v3 + 1))) (xs (ix (v3 + 2))) s) (g := fun (x72 : Int32) => (some (.int x72), mT s)) rfl (m_G_of (len := len) (xs := xs) (d + 65) (xs (ix (v3 + 1))) (xs (ix (v3 + 2))) s) (fun x72 => ?_)
                                                                refine w_go K 5 (c' := (1229, [some (.ref 1000001), some (.ref 0), some (.ref 116), some (.int v3)], [.int (v3 + 1), .ref 1000001, .ref 116, .int x72], mT s)) rfl ?_
                                                                refine w_ck K (mm_x1 rfl) ?_
                                                                refine w_go K 4 (c' := (1234, [some (.ref 1000001), some (.ref 0), some (.ref 116), some (.int v3)], [.int (v3 + 2), .ref 1000001, .int (xs (ix (v3 + 1))), .ref 116, .int x72], mT s)) rfl ?_
                                                                refine w_ck K (mm_x1 rfl) ?_
                                                                refine w_go K 0 (c' := (1235, [some (.ref 1000001), some (.ref 0), some (.ref 116), some (.int v3)], [.int (xs (ix (v3 + 2))), .int (xs (ix (v3 + 1))), .ref 116, .int x72], mT s)) rfl ?_
                                                                refine w_callL K (E := f_M_of (xs (ix (v3 + 1))) (xs (ix (v3 + 2))) s) (g := fun (x73 : Int32) => (some (.int x73), mT s)) rfl (m_M_of (len := len) (xs := xs) (d + 66) (xs (ix (v3 + 1))) (xs (ix (v3 + 2))) s) (fun x73 => ?_)
                                                                refine w_go K 0 (c' := (1238, [some (.ref 1000001), some (.ref 0), some (.ref 116), some (.int v3)], [.int x73, .int x72], mT s)) rfl ?_
                                                                refine w_ieq K rfl (fun _ => ?_) (fun _ => ?_)
                                                                · refine w_go K 2 (c' := (18, [some (.ref 1000001), some (.ref 0), some (.ref 116), some (.int (v3 + 6))], [], mT s)) rfl ?_
                                                                  exact fun a b => ih (v3 + 6) s a b
                                                                · refine w_go K 1 (c' := (1242, [some (.ref 1000001), some (.ref 0), some (.ref 116), some (.int v3)], [.int 0], mT s)) rfl ?_
                                                                  exact w_ret K rfl (fun h => hR _ h _ rfl)
                                                              · refine w_sw K (fun _ => ?_) (fun _ => ?_)
                                                                · refine w_go K 5 (c' := (1248, [some (.ref 1000001), some (.ref 0), some (.ref 116), some (.int v3)], [.int (v3 + 1), .ref 1000001, .ref 0], mT s)) rfl ?_
                                                                  refine w_ck K (mm_x1 rfl) ?_
                                                                  refine w_go K 4 (c' := (1253, [some (.ref 1000001), some (.ref 0), some (.ref 116), some (.int v3)], [.int (v3 + 2), .ref 1000001, .int (xs (ix (v3 + 1))), .ref 0], mT s)) rfl ?_
                                                                  refine w_ck K (mm_x1 rfl) ?_
                                                                  refine w_go K 0 (c' := (1254, [some (.ref 1000001), some (.ref 0), some (.ref 116), some (.int v3)], [.int (xs (ix (v3 + 2))), .int (xs (ix (v3 + 1))), .ref 0], mT s)) rfl ?_
                                                                  refine w_callL K (E := f_G_why (xs (ix (v3 + 1))) (xs (ix (v3 + 2))) s) (g := fun (x74 : Int32 × mS) => (some (.int x74.1), mT x74.2)) rfl (m_G_why (len := len) (xs := xs) (d + 65) (xs (ix (v3 + 1))) (xs (ix (v3 + 2))) s) (fun x74 => ?_)
                                                                  refine w_go K 5 (c' := (1262, [some (.ref 1000001), some (.ref 0), some (.ref 116), some (.int v3)], [.int (v3 + 1), .ref 1000001, .ref 116, .int x74.1], mT x74.2)) rfl ?_
                                                                  refine w_ck K (mm_x1 rfl) ?_
                                                                  refine w_go K 4 (c' := (1267, [some (.ref 1000001), some (.ref 0), some (.ref 116), some (.int v3)], [.int (v3 + 2), .ref 1000001, .int (xs (ix (v3 + 1))), .ref 116, .int x74.1], mT x74.2)) rfl ?_
                                                                  refine w_ck K (mm_x1 rfl) ?_
                                                                  refine w_go K 0 (c' := (1268, [some (.ref 1000001), some (.ref 0), some (.ref 116), some (.int v3)], [.int (xs (ix (v3 + 2))), .int (xs (ix (v3 + 1))), .ref 116, .int x74.1], mT x74.2)) rfl ?_
                                                                  refine w_callL K (E := f_M_why (xs (ix (v3 + 1))) (xs (ix (v3 + 2))) x74.2) (g := fun (x75 : Int32) => (some (.int x75), mT x74.2)) rfl (m_M_why (len := len) (xs := xs) (d + 67) (xs (ix (v3 + 1))) (xs (ix (v3 + 2))) x74.2) (fun x75 => ?_)
                                                                  refine w_go K 0 (c' := (1271, [some (.ref 1000001), some (.ref 0), some (.ref 116), some (.int v3)], [.int x75, .int x74.1], mT x74.2)) rfl ?_
                                                                  refine w_ieq K rfl (fun _ => ?_) (fun _ => ?_)
                                                                  · refine w_go K 2 (c' := (18, [some (.ref 1000001), some (.ref 0), some (.ref 116), some (.int (v3 + 6))], [], mT x74.2)) rfl ?_
                                                                    exact fun a b => ih (v3 + 6) x74.2 a b
                                                                  · refine w_go K 1 (c' := (1275, [some (.ref 1000001), some (.ref 0), some (.ref 116), some (.int v3)], [.int 0], mT x74.2)) rfl ?_
                                                                    exact w_ret K rfl (fun h => hR _ h _ rfl)
                                                                · refine w_sw K (fun _ => ?_) (fun _ => ?_)
                                                                  · refine w_go K 5 (c' := (1281, [some (.ref 1000001), some (.ref 0), some (.ref 116), some (.int v3)], [.int (v3 + 1), .ref 1000001, .ref 0], mT s)) rfl ?_
                                                                    refine w_ck K (mm_x1 rfl) ?_
                                                                    refine w_go K 4 (c' := (1286, [some (.ref 1000001), some (.ref 0), some (.ref 116), some (.int v3)], [.int (v3 + 2), .ref 1000001, .int (xs (ix (v3 + 1))), .ref 0], mT s)) rfl ?_
                                                                    refine w_ck K (mm_x1 rfl) ?_
                                                                    refine w_go K 4 (c' := (1291, [some (.ref 1000001), some (.ref 0), some (.ref 116), some (.int v3)], [.int (v3 + 3), .ref 1000001, .int (xs (ix (v3 + 2))), .int (xs (ix (v3 + 1))), .ref 0], mT s)) rfl ?_
                                                                    refine w_ck K (mm_x1 rfl) ?_
                                                                    refine w_go K 0 (c' := (1292, [some (.ref 1000001), some (.ref 0), some (.ref 116), some (.int v3)], [.int (xs (ix (v3 + 3))), .int (xs (ix (v3 + 2))), .int (xs (ix (v3 + 1))), .ref 0], mT s)) rfl ?_
                                                                    refine w_callL K (E := f_G_best (xs (ix (v3 + 1))) (xs (ix (v3 + 2))) (xs (ix (v3 + 3))) s) (g := fun (x76 : Int32 × mS) => (some (.int x76.1), mT x76.2)) rfl (m_G_best (len := len) (xs := xs) (d + 41) (xs (ix (v3 + 1))) (xs (ix (v3 + 2))) (xs (ix (v3 + 3))) s) (fun x76 => ?_)
                                                                    refine w_go K 5 (c' := (1300, [some (.ref 1000001), some (.ref 0), some (.ref 116), some (.int v3)], [.int (v3 + 1), .ref 1000001, .ref 116, .int x76.1], mT x76.2)) rfl ?_
                                                                    refine w_ck K (mm_x1 rfl) ?_
                                                                    refine w_go K 4 (c' := (1305, [some (.ref 1000001), some (.ref 0), some (.ref 116), some (.int v3)], [.int (v3 + 2), .ref 1000001, .int (xs (ix (v3 + 1))), .ref 116, .int x76.1], mT x76.2)) rfl ?_
                                                                    refine w_ck K (mm_x1 rfl) ?_
                                                                    refine w_go K 4 (c' := (1310, [some (.ref 1000001), some (.ref 0), some (.ref 116), some (.int v3)], [.int (v3 + 3), .ref 1000001, .int (xs (ix (v3 + 2))), .int (xs (ix (v3 + 1))), .ref 116, .int x76.1], mT x76.2)) rfl ?_
                                                                    refine w_ck K (mm_x1 rfl) ?_
                                                                    refine w_go K 0 (c' := (1311, [some (.ref 1000001), some (.ref 0), some (.ref 116), some (.int v3)], [.int (xs (ix (v3 + 3))), .int (xs (ix (v3 + 2))), .int (xs (ix (v3 + 1))), .ref 116, .int x76.1], mT x76.2)) rfl ?_
                                                                    refine w_callL K (E := f_M_best (xs (ix (v3 + 1))) (xs (ix (v3 + 2))) (xs (ix (v3 + 3))) x76.2) (g := fun (x77 : Int32 × mS) => (some (.int x77.1), mT x77.2)) rfl (m_M_best (len := len) (xs := xs) (d + 33) (xs (ix (v3 + 1))) (xs (ix (v3 + 2))) (xs (ix (v3 + 3))) x76.2) (fun x77 => ?_)
                                                                    refine w_go K 0 (c' := (1314, [some (.ref 1000001), some (.ref 0), some (.ref 116), some (.int v3)], [.int x77.1, .int x76.1], mT x77.2)) rfl ?_
                                                                    refine w_ieq K rfl (fun _ => ?_) (fun _ => ?_)
                                                                    · refine w_go K 2 (c' := (18, [some (.ref 1000001), some (.ref 0), some (.ref 116), some (.int (v3 + 6))], [], mT x77.2)) rfl ?_
                                                                      exact fun a b => ih (v3 + 6) x77.2 a b
                                                                    · refine w_go K 1 (c' := (1318, [some (.ref 1000001), some (.ref 0), some (.ref 116), some (.int v3)], [.int 0], mT x77.2)) rfl ?_
                                                                      exact w_ret K rfl (fun h => hR _ h _ rfl)
                                                                  · refine w_sw K (fun _ => ?_) (fun _ => ?_)
                                                                    · refine w_go K 1 (c' := (1320, [some (.ref 1000001), some (.ref 0), some (.ref 116), some (.int v3)], [.ref 0], mT s)) rfl ?_
                                                                      refine w_callL K (E := f_G_last s) (g := fun (x78 : Int32) => (some (.int x78), mT s)) rfl (m_G_last (len := len) (xs := xs) (d + 63) s) (fun x78 => ?_)
                                                                      refine w_go K 1 (c' := (1324, [some (.ref 1000001), some (.ref 0), some (.ref 116), some (.int v3)], [.ref 116, .int x78], mT s)) rfl ?_
                                                                      refine w_callL K (E := f_M_last s) (g := fun (x79 : Int32) => (some (.int x79), mT s)) rfl (m_M_last (len := len) (xs := xs) (d + 65) s) (fun x79 => ?_)
                                                                      refine w_go K 0 (c' := (1327, [some (.ref 1000001), some (.ref 0), some (.ref 116), some (.int v3)], [.int x79, .int x78], mT s)) rfl ?_
                                                                      refine w_ieq K rfl (fun _ => ?_) (fun _ => ?_)
                                                                      · refine w_go K 2 (c' := (18, [some (.ref 1000001), some (.ref 0), some (.ref 116), some (.int (v3 + 6))], [], mT s)) rfl ?_
                                                                        exact fun a b => ih (v3 + 6) s a b
                                                                      · refine w_go K 1 (c' := (1331, [some (.ref 1000001), some (.ref 0), some (.ref 116), some (.int v3)], [.int 0], mT s)) rfl ?_
                                                                        exact w_ret K rfl (fun h => hR _ h _ rfl)
                                                                    · refine w_sw K (fun _ => ?_) (fun _ => ?_)
                                                                      · refine w_go K 5 (c' := (1337, [some (.ref 1000001), some (.ref 0), some (.ref 116), some (.int v3)], [.int (v3 + 1), .ref 1000001, .ref 0], mT s)) rfl ?_
                                                                        refine w_ck K (mm_x1 rfl) ?_
                                                                        refine w_go K 4 (c' := (1342, [some (.ref 1000001), some (.ref 0), some (.ref 116), some (.int v3)], [.int (v3 + 2), .ref 1000001, .int (xs (ix (v3 + 1))), .ref 0], mT s)) rfl ?_
                                                                        refine w_ck K (mm_x1 rfl) ?_
                                                                        refine w_go K 0 (c' := (1343, [some (.ref 1000001), some (.ref 0), some (.ref 116), some (.int v3)], [.int (xs (ix (v3 + 2))), .int (xs (ix (v3 + 1))), .ref 0], mT s)) rfl ?_
                                                                        refine w_callL K (E := f_G_sees (xs (ix (v3 + 1))) (xs (ix (v3 + 2))) s) (g := fun (x80 : Int32 × mS) => (some (.int x80.1), mT x80.2)) rfl (m_G_sees (len := len) (xs := xs) (d + 67) (xs (ix (v3 + 1))) (xs (ix (v3 + 2))) s) (fun x80 => ?_)
                                                                        refine w_go K 5 (c' := (1351, [some (.ref 1000001), some (.ref 0), some (.ref 116), some (.int v3)], [.int (v3 + 1), .ref 1000001, .ref 116, .int x80.1], mT x80.2)) rfl ?_
                                                                        refine w_ck K (mm_x1 rfl) ?_
                                                                        refine w_go K 4 (c' := (1356, [some (.ref 1000001), some (.ref 0), some (.ref 116), some (.int v3)], [.int (v3 + 2), .ref 1000001, .int (xs (ix (v3 + 1))), .ref 116, .int x80.1], mT x80.2)) rfl ?_
                                                                        refine w_ck K (mm_x1 rfl) ?_
                                                                        refine w_go K 0 (c' := (1357, [some (.ref 1000001), some (.ref 0), some (.ref 116), some (.int v3)], [.int (xs (ix (v3 + 2))), .int (xs (ix (v3 + 1))), .ref 116, .int x80.1], mT x80.2)) rfl ?_
                                                                        refine w_callL K (E := f_M_sees (xs (ix (v3 + 1))) (xs (ix (v3 + 2))) x80.2) (g := fun (x81 : Int32 × mS) => (some (.int x81.1), mT x81.2)) rfl (m_M_sees (len := len) (xs := xs) (d + 68) (xs (ix (v3 + 1))) (xs (ix (v3 + 2))) x80.2) (fun x81 => ?_)
                                                                        refine w_go K 0 (c' := (1360, [some (.ref 1000001), some (.ref 0), some (.ref 116), some (.int v3)], [.int x81.1, .int x80.1], mT x81.2)) rfl ?_
                                                                        refine w_ieq K rfl (fun _ => ?_) (fun _ => ?_)
                                                                        · refine w_go K 2 (c' := (18, [some (.ref 1000001), some (.ref 0), some (.ref 116), some (.int (v3 + 6))], [], mT x81.2)) rfl ?_
                                                                          exact fun a b => ih (v3 + 6) x81.2 a b
                                                                        · refine w_go K 1 (c' := (1364, [some (.ref 1000001), some (.ref 0), some (.ref 116), some (.int v3)], [.int 0], mT x81.2)) rfl ?_
                                                                          exact w_ret K rfl (fun h => hR _ h _ rfl)
                                                                      · refine w_sw K (fun _ => ?_) (fun _ => ?_)
                                                                        · refine w_go K 5 (c' := (1370, [some (.ref 1000001), some (.ref 0), some (.ref 116), some (.int v3)], [.int (v3 + 1), .ref 1000001, .ref 0], mT s)) rfl ?_
                                                                          refine w_ck K (mm_x1 rfl) ?_
                                                                          refine w_go K 0 (c' := (1371, [some (.ref 1000001), some (.ref 0), some (.ref 116), some (.int v3)], [.int (xs (ix (v3 + 1))), .ref 0], mT s)) rfl ?_
                                                                          refine w_callL K (E := f_G_find (xs (ix (v3 + 1))) s) (g := fun (x82 : Int32 × mS) => (some (.int x82.1), mT x82.2)) rfl (m_G_find (len := len) (xs := xs) (d + 65) (xs (ix (v3 + 1))) s) (fun x82 => ?_)
                                                                          refine w_go K 5 (c' := (1379, [some (.ref 1000001), some (.ref 0), some (.ref 116), some (.int v3)], [.int (v3 + 1), .ref 1000001, .ref 116, .int x82.1], mT x82.2)) rfl ?_
                                                                          refine w_ck K (mm_x1 rfl) ?_
                                                                          refine w_go K 0 (c' := (1380, [some (.ref 1000001), some (.ref 0), some (.ref 116), some (.int v3)], [.int (xs (ix (v3 + 1))), .ref 116, .int x82.1], mT x82.2)) rfl ?_
                                                                          refine w_callL K (E := f_M_find (xs (ix (v3 + 1))) x82.2) (g := fun (x83 : Int32 × mS) => (some (.int x83.1), mT x83.2)) rfl (m_M_find (len := len) (xs := xs) (d + 67) (xs (ix (v3 + 1))) x82.2) (fun x83 => ?_)
                                                                          refine w_go K 0 (c' := (1383, [some (.ref 1000001), some (.ref 0), some (.ref 116), some (.int v3)], [.int x83.1, .int x82.1], mT x83.2)) rfl ?_
                                                                          refine w_ieq K rfl (fun _ => ?_) (fun _ => ?_)
                                                                          · refine w_go K 2 (c' := (18, [some (.ref 1000001), some (.ref 0), some (.ref 116), some (.int (v3 + 6))], [], mT x83.2)) rfl ?_
                                                                            exact fun a b => ih (v3 + 6) x83.2 a b
                                                                          · refine w_go K 1 (c' := (1387, [some (.ref 1000001), some (.ref 0), some (.ref 116), some (.int v3)], [.int 0], mT x83.2)) rfl ?_
                                                                            exact w_ret K rfl (fun h => hR _ h _ rfl)
                                                                        · refine w_sw K (fun _ => ?_) (fun _ => ?_)
                                                                          · refine w_go K 5 (c' := (1393, [some (.ref 1000001), some (.ref 0), some (.ref 116), some (.int v3)], [.int (v3 + 1), .ref 1000001, .ref 0], mT s)) rfl ?_
                                                                            refine w_ck K (mm_x1 rfl) ?_
                                                                            refine w_go K 4 (c' := (1398, [some (.ref 1000001), some (.ref 0), some (.ref 116), some (.int v3)], [.int (v3 + 2), .ref 1000001, .int (xs (ix (v3 + 1))), .ref 0], mT s)) rfl ?_
                                                                            refine w_ck K (mm_x1 rfl) ?_
                                                                            refine w_go K 4 (c' := (1403, [some (.ref 1000001), some (.ref 0), some (.ref 116), some (.int v3)], [.int (v3 + 3), .ref 1000001, .int (xs (ix (v3 + 2))), .int (xs (ix (v3 + 1))), .ref 0], mT s)) rfl ?_
                                                                            refine w_ck K (mm_x1 rfl) ?_
                                                                            refine w_go K 0 (c' := (1404, [some (.ref 1000001), some (.ref 0), some (.ref 116), some (.int v3)], [.int (xs (ix (v3 + 3))), .int (xs (ix (v3 + 2))), .int (xs (ix (v3 + 1))), .ref 0], mT s)) rfl ?_
                                                                            refine w_callL K (E := f_G_work (xs (ix (v3 + 1))) (xs (ix (v3 + 2))) (xs (ix (v3 + 3))) s) (g := fun (x84 : Int32 × mS) => (some (.int x84.1), mT x84.2)) rfl (m_G_work (len := len) (xs := xs) (d + 67) (xs (ix (v3 + 1))) (xs (ix (v3 + 2))) (xs (ix (v3 + 3))) s) (fun x84 => ?_)
                                                                            refine w_go K 5 (c' := (1412, [some (.ref 1000001), some (.ref 0), some (.ref 116), some (.int v3)], [.int (v3 + 1), .ref 1000001, .ref 116, .int x84.1], mT x84.2)) rfl ?_
                                                                            refine w_ck K (mm_x1 rfl) ?_
                                                                            refine w_go K 4 (c' := (1417, [some (.ref 1000001), some (.ref 0), some (.ref 116), some (.int v3)], [.int (v3 + 2), .ref 1000001, .int (xs (ix (v3 + 1))), .ref 116, .int x84.1], mT x84.2)) rfl ?_
                                                                            refine w_ck K (mm_x1 rfl) ?_
                                                                            refine w_go K 4 (c' := (1422, [some (.ref 1000001), some (.ref 0), some (.ref 116), some (.int v3)], [.int (v3 + 3), .ref 1000001, .int (xs (ix (v3 + 2))), .int (xs (ix (v3 + 1))), .ref 116, .int x84.1], mT x84.2)) rfl ?_
                                                                            refine w_ck K (mm_x1 rfl) ?_
                                                                            refine w_go K 0 (c' := (1423, [some (.ref 1000001), some (.ref 0), some (.ref 116), some (.int v3)], [.int (xs (ix (v3 + 3))), .int (xs (ix (v3 + 2))), .int (xs (ix (v3 + 1))), .ref 116, .int x84.1], mT x84.2)) rfl ?_
                                                                            refine w_callL K (E := f_M_work (xs (ix (v3 + 1))) (xs (ix (v3 + 2))) (xs (ix (v3 + 3))) x84.2) (g := fun (x85 : Int32 × mS) => (some (.int x85.1), mT x85.2)) rfl (m_M_work (len := len) (xs := xs) (d + 68) (xs (ix (v3 + 1))) (xs (ix (v3 + 2))) (xs (ix (v3 + 3))) x84.2) (fun x85 => ?_)
                                                                            refine w_go K 0 (c' := (1426, [some (.ref 1000001), some (.ref 0), some (.ref 116), some (.int v3)], [.int x85.1, .int x84.1], mT x85.2)) rfl ?_
                                                                            refine w_ieq K rfl (fun _ => ?_) (fun _ => ?_)
                                                                            · refine w_go K 2 (c' := (18, [some (.ref 1000001), some (.ref 0), some (.ref 116), some (.int (v3 + 6))], [], mT x85.2)) rfl ?_
                                                                              exact fun a b => ih (v3 + 6) x85.2 a b
                                                                            · refine w_go K 1 (c' := (1430, [some (.ref 1000001), some (.ref 0), some (.ref 116), some (.int v3)], [.int 0], mT x85.2)) rfl ?_
                                                                              exact w_ret K rfl (fun h => hR _ h _ rfl)
                                                                          · refine w_sw K (fun _ => ?_) (fun _ => ?_)
                                                                            · refine w_go K 5 (c' := (1436, [some (.ref 1000001), some (.ref 0), some (.ref 116), some (.int v3)], [.int (v3 + 1), .ref 1000001, .ref 0], mT s)) rfl ?_
                                                                              refine w_ck K (mm_x1 rfl) ?_
                                                                              refine w_go K 4 (c' := (1441, [some (.ref 1000001), some (.ref 0), some (.ref 116), some (.int v3)], [.int (v3 + 2), .ref 1000001, .int (xs (ix (v3 + 1))), .ref 0], mT s)) rfl ?_
                                                                              refine w_ck K (mm_x1 rfl) ?_
                                                                              refine w_go K 4 (c' := (1446, [some (.ref 1000001), some (.ref 0), some (.ref 116), some (.int v3)], [.int (v3 + 3), .ref 1000001, .int (xs (ix (v3 + 2))), .int (xs (ix (v3 + 1))), .ref 0], mT s)) rfl ?_
                                                                              refine w_ck K (mm_x1 rfl) ?_
                                                                              refine w_go K 0 (c' := (1447, [some (.ref 1000001), some (.ref 0), some (.ref 116), some (.int v3)], [.int (xs (ix (v3 + 3))), .int (xs (ix (v3 + 2))), .int (xs (ix (v3 + 1))), .ref 0], mT s)) rfl ?_
                                                                              refine w_callL K (E := f_G_choice (xs (ix (v3 + 1))) (xs (ix (v3 + 2))) (xs (ix (v3 + 3))) s) (g := fun (x86 : Int32 × mS) => (some (.int x86.1), mT x86.2)) rfl (m_G_choice (len := len) (xs := xs) (d + 63) (xs (ix (v3 + 1))) (xs (ix (v3 + 2))) (xs (ix (v3 + 3))) s) (fun x86 => ?_)
                                                                              refine w_go K 5 (c' := (1455, [some (.ref 1000001), some (.ref 0), some (.ref 116), some (.int v3)], [.int (v3 + 1), .ref 1000001, .ref 116, .int x86.1], mT x86.2)) rfl ?_
                                                                              refine w_ck K (mm_x1 rfl) ?_
                                                                              refine w_go K 4 (c' := (1460, [some (.ref 1000001), some (.ref 0), some (.ref 116), some (.int v3)], [.int (v3 + 2), .ref 1000001, .int (xs (ix (v3 + 1))), .ref 116, .int x86.1], mT x86.2)) rfl ?_
                                                                              refine w_ck K (mm_x1 rfl) ?_
                                                                              refine w_go K 4 (c' := (1465, [some (.ref 1000001), some (.ref 0), some (.ref 116), some (.int v3)], [.int (v3 + 3), .ref 1000001, .int (xs (ix (v3 + 2))), .int (xs (ix (v3 + 1))), .ref 116, .int x86.1], mT x86.2)) rfl ?_
                                                                              refine w_ck K (mm_x1 rfl) ?_
                                                                              refine w_go K 0 (c' := (1466, [some (.ref 1000001), some (.ref 0), some (.ref 116), some (.int v3)], [.int (xs (ix (v3 + 3))), .int (xs (ix (v3 + 2))), .int (xs (ix (v3 + 1))), .ref 116, .int x86.1], mT x86.2)) rfl ?_
                                                                              refine w_callL K (E := f_M_choice (xs (ix (v3 + 1))) (xs (ix (v3 + 2))) (xs (ix (v3 + 3))) x86.2) (g := fun (x87 : Int32 × mS) => (some (.int x87.1), mT x87.2)) rfl (m_M_choice (len := len) (xs := xs) (d + 64) (xs (ix (v3 + 1))) (xs (ix (v3 + 2))) (xs (ix (v3 + 3))) x86.2) (fun x87 => ?_)
                                                                              refine w_go K 0 (c' := (1469, [some (.ref 1000001), some (.ref 0), some (.ref 116), some (.int v3)], [.int x87.1, .int x86.1], mT x87.2)) rfl ?_
                                                                              refine w_ieq K rfl (fun _ => ?_) (fun _ => ?_)
                                                                              · refine w_go K 2 (c' := (18, [some (.ref 1000001), some (.ref 0), some (.ref 116), some (.int (v3 + 6))], [], mT x87.2)) rfl ?_
                                                                                exact fun a b => ih (v3 + 6) x87.2 a b
                                                                              · refine w_go K 1 (c' := (1473, [some (.ref 1000001), some (.ref 0), some (.ref 116), some (.int v3)], [.int 0], mT x87.2)) rfl ?_
                                                                                exact w_ret K rfl (fun h => hR _ h _ rfl)
                                                                            · refine w_sw K (fun _ => ?_) (fun _ => ?_)
                                                                              · refine w_go K 5 (c' := (1479, [some (.ref 1000001), some (.ref 0), some (.ref 116), some (.int v3)], [.int (v3 + 1), .ref 1000001, .ref 0], mT s)) rfl ?_
                                                                                refine w_ck K (mm_x1 rfl) ?_
                                                                                refine w_go K 0 (c' := (1480, [some (.ref 1000001), some (.ref 0), some (.ref 116), some (.int v3)], [.int (xs (ix (v3 + 1))), .ref 0], mT s)) rfl ?_
                                                                                refine w_callL K (E := f_G_look (xs (ix (v3 + 1))) s) (g := fun (x88 : Int64) => (some (.long x88), mT s)) rfl (m_G_look (len := len) (xs := xs) (d + 68) (xs (ix (v3 + 1))) s) (fun x88 => ?_)
                                                                                refine w_go K 5 (c' := (1488, [some (.ref 1000001), some (.ref 0), some (.ref 116), some (.int v3)], [.int (v3 + 1), .ref 1000001, .ref 116, .long x88], mT s)) rfl ?_
                                                                                refine w_ck K (mm_x1 rfl) ?_
                                                                                refine w_go K 0 (c' := (1489, [some (.ref 1000001), some (.ref 0), some (.ref 116), some (.int v3)], [.int (xs (ix (v3 + 1))), .ref 116, .long x88], mT s)) rfl ?_
                                                                                refine w_callL K (E := f_M_look (xs (ix (v3 + 1))) s) (g := fun (x89 : Int64) => (some (.long x89), mT s)) rfl (m_M_look (len := len) (xs := xs) (d + 69) (xs (ix (v3 + 1))) s) (fun x89 => ?_)
                                                                                refine w_go K 1 (c' := (1493, [some (.ref 1000001), some (.ref 0), some (.ref 116), some (.int v3)], [.int (lg_cmp x88 x89)], mT s)) rfl ?_
                                                                                refine w_zeq K rfl (fun _ => ?_) (fun _ => ?_)
                                                                                · refine w_go K 2 (c' := (18, [some (.ref 1000001), some (.ref 0), some (.ref 116), some (.int (v3 + 6))], [], mT s)) rfl ?_
                                                                                  exact fun a b => ih (v3 + 6) s a b
                                                                                · refine w_go K 1 (c' := (1497, [some (.ref 1000001), some (.ref 0), some (.ref 116), some (.int v3)], [.int 0], mT s)) rfl ?_
                                                                                  exact w_ret K rfl (fun h => hR _ h _ rfl)
                                                                              · refine w_go K 0 (c' := (1498, [some (.ref 1000001), some (.ref 0), some (.ref 116), some (.int v3)], [], mT s)) rfl ?_
                                                                                refine w_go K 2 (c' := (18, [some (.ref 1000001), some (.ref 0), some (.ref 116), some (.int (v3 + 6))], [], mT s)) rfl ?_
                                                                                exact fun a b => ih (v3 + 6) s a b
def f_law (len : Nat) (xs : Nat → Int32) (s : mS) : Int32 × mS := (mq_let (lp_law_18 len xs mm_N (0 : Int32) s) (fun (x90 : Option Int32 × Int32 × mS) => mq_el x90.1 (fun v => (v, x90.2.2)) (1, x90.2.2)))
def ok_law (len : Nat) (xs : Nat → Int32) (s : mS) : Prop := (okl_law_18 len xs mm_N (0 : Int32) s ∧ mq_letP (lp_law_18 len xs mm_N (0 : Int32) s) (fun (x90 : Option Int32 × Int32 × mS) => mq_elP x90.1 True))
set_option maxRecDepth 4000 in
theorem t_law {len : Nat} {xs : Nat → Int32} (d : Nat) (s : mS) {T : Option mm_R} (K : Int32 × mS → Prop) (hK : ∀ t, K t → some (some (.int t.1), mT t.2) = T) : ok_law len xs s → K (f_law len xs s) → mm_fix (mm_X len xs) mm_Y (mm_call (mm_X len xs) mm_Y (d + 70)) (mm_look mc_Law_law) (16, [some (.ref 1000001), some (.ref 0), some (.ref 116), none], [], mT s) = T := by
  unfold ok_law f_law
  refine w_go K 2 (c' := (18, [some (.ref 1000001), some (.ref 0), some (.ref 116), some (.int 0)], [], mT s)) rfl ?_
  refine w_join K (fun (x90 : Option Int32 × Int32 × mS) => (x90.1 = none → mm_fix (mm_X len xs) mm_Y (mm_call (mm_X len xs) mm_Y (d + 70)) (mm_look mc_Law_law) (1504, [some (.ref 1000001), some (.ref 0), some (.ref 116), some (.int x90.2.1)], [], mT x90.2.2) = T) ∧ (∀ v, x90.1 = some v → some (some (.int v), mT x90.2.2) = T)) (fun K hJ => tl_law_18 (len := len) (xs := xs) d (T := T) K (fun r hr => (hJ r hr).1) (fun r hr => (hJ r hr).2) mm_N (0 : Int32) s) (fun x90 h1 h2 => w_el K (fun v hv h => hK _ h) (fun h1 h2 => ?_) h1 h2)
  revert h1 h2
  refine w_go K 1 (c' := (1505, [some (.ref 1000001), some (.ref 0), some (.ref 116), some (.int x90.2.1)], [.int 1], mT x90.2.2)) rfl ?_
  exact w_ret K rfl (hK _)
set_option maxRecDepth 4000 in
theorem m_law {len : Nat} {xs : Nat → Int32} (d : Nat) {S : mS} (hS : mT mi_s = mT S) (h : ok_law len xs S) : ∃ τ, mm_call (mm_X len xs) mm_Y (d + 71) 251 [.ref 1000001] ml_empty = some (some (.int (f_law len xs S).1), τ) ∧ rn_R rn_p 180 (mT (f_law len xs S).2) τ := by
  have hv := t_law (len := len) (xs := xs) d S (fun t => (some (some (.int t.1), mT t.2) : Option mm_R) = some (some (.int (f_law len xs S).1), mT (f_law len xs S).2)) (fun _ h => h) h rfl
  have hr := List.mem_of_getElem? ml_row
  have hC : rn_C rn_p 180 (16, [some (.ref 1000001), some (.ref 0), some (.ref 116), none], [], mT S) (16, [some (.ref 1000001), some (.ref 0), some (.ref 117), none], [], mU 180 oo_450) := by
    refine ⟨rfl, ?_, rfl, by rw [← hS]; exact mi_kR⟩
    show _ = [some (Value.ref (rn_p 1000001)), some (Value.ref (rn_p 0)), some (Value.ref (rn_p 116)), none]
    rw [show rn_p 1000001 = 1000001 by decide +kernel, show rn_p 0 = 0 by decide +kernel, show rn_p 116 = 117 by decide +kernel]
  obtain ⟨q, hq, hA1, hA2⟩ := rn_fix rn_ok hr hC hv
  refine ⟨q.2, ?_, hA2⟩
  have e0 : ml_empty = mU 0 [] := rfl
  rw [e0]
  show mm_fix (mm_X len xs) mm_Y (mm_call (mm_X len xs) mm_Y (d + 70)) (mm_look mc_Law_law) (0, [some (.ref 1000001), none, none, none], [], mU 0 []) = _
  refine sv_st (c' := (3, [some (.ref 1000001), none, none, none], [.ref 0], mU 1 oo_1)) (su_new (len := 3) rfl rfl rfl) ?_
  refine fx_go 1 (c' := (4, [some (.ref 1000001), none, none, none], [.ref 0, .ref 0], mU 1 oo_1)) rfl ?_
  refine sv_call rfl (mi_G_init_0 (len := len) (xs := xs) (d + 66)) ?_
  refine fx_go 1 (c' := (8, [some (.ref 1000001), some (.ref 0), none, none], [], mU 117 oo_266)) rfl ?_
  refine sv_st (c' := (11, [some (.ref 1000001), some (.ref 0), none, none], [.ref 117], mU 118 oo_267)) (su_new (len := 3) rfl rfl rfl) ?_
  refine fx_go 1 (c' := (12, [some (.ref 1000001), some (.ref 0), none, none], [.ref 117, .ref 117], mU 118 oo_267)) rfl ?_
  refine sv_call rfl (mi_M_init_117 (len := len) (xs := xs) (d + 69)) ?_
  refine fx_go 1 (c' := (16, [some (.ref 1000001), some (.ref 0), some (.ref 117), none], [], mU 180 oo_450)) rfl ?_
  exact hq.trans (congrArg some (Prod.ext hA1 rfl))
