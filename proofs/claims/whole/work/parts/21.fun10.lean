/-! FUNCTIONS OF METHODS, by program: f_ what it does, ok_ that no row fails, m_ the small machine does so. -/
def f_Parser_takeBehind  (s : mS) : mS := (mq_let (if (gI s 80 8) = 2 then (1 : Int32) else (if (gI s 80 8) = 3 then (1 : Int32) else (0 : Int32))) (fun (x10 : Int32) => (if (gI s 80 3) < 17 then (if (gI s 80 3) < 23 then (if (gI s 80 3) = 14 then (if x10 = 0 then (if (gI s 80 3) = 22 then (if x10 = 0 then (if (gI s 80 3) = 12 then (if (gI s 80 8) = 0 then (mq_let (f_Parser_unwind (1 : Int32) s) (fun (x11 : mS) => (mq_let (gP x11 4) (fun (r12 : Nat) => (mq_let (f_Act_beginCondition r12 x11) (fun (x13 : mS) => sI x13 80 7 3)))))) else (if (gI s 80 3) = 16 then (if (gI s 80 8) = 1 then (mq_let (f_Parser_fail (1 : Int32) s) (fun (x14 : mS) => x14)) else (mq_let (f_Parser_closeLine s) (fun (x15 : mS) => x15))) else (mq_let (f_Parser_fail (1 : Int32) s) (fun (x16 : mS) => x16)))) else (if (gI s 80 3) = 16 then (if (gI s 80 8) = 1 then (mq_let (f_Parser_fail (1 : Int32) s) (fun (x17 : mS) => x17)) else (mq_let (f_Parser_closeLine s) (fun (x18 : mS) => x18))) else (mq_let (f_Parser_fail (1 : Int32) s) (fun (x19 : mS) => x19)))) else (mq_let (f_Parser_closeBracket s) (fun (x20 : mS) => x20))) else (if (gI s 80 3) = 12 then (if (gI s 80 8) = 0 then (mq_let (f_Parser_unwind (1 : Int32) s) (fun (x21 : mS) => (mq_let (gP x21 4) (fun (r22 : Nat) => (mq_let (f_Act_beginCondition r22 x21) (fun (x23 : mS) => sI x23 80 7 3)))))) else (if (gI s 80 3) = 16 then (if (gI s 80 8) = 1 then (mq_let (f_Parser_fail (1 : Int32) s) (fun (x24 : mS) => x24)) else (mq_let (f_Parser_closeLine s) (fun (x25 : mS) => x25))) else (mq_let (f_Parser_fail (1 : Int32) s) (fun (x26 : mS) => x26)))) else (if (gI s 80 3) = 16 then (if (gI s 80 8) = 1 then (mq_let (f_Parser_fail (1 : Int32) s) (fun (x27 : mS) => x27)) else (mq_let (f_Parser_closeLine s) (fun (x28 : mS) => x28))) else (mq_let (f_Parser_fail (1 : Int32) s) (fun (x29 : mS) => x29))))) else (mq_let (f_Parser_operate (3 : Int32) s) (fun (x30 : mS) => x30))) else (if (gI s 80 3) = 13 then (if x10 = 0 then (if (gI s 80 3) = 22 then (if x10 = 0 then (if (gI s 80 3) = 12 then (if (gI s 80 8) = 0 then (mq_let (f_Parser_unwind (1 : Int32) s) (fun (x31 : mS) => (mq_let (gP x31 4) (fun (r32 : Nat) => (mq_let (f_Act_beginCondition r32 x31) (fun (x33 : mS) => sI x33 80 7 3)))))) else (if (gI s 80 3) = 16 then (if (gI s 80 8) = 1 then (mq_let (f_Parser_fail (1 : Int32) s) (fun (x34 : mS) => x34)) else (mq_let (f_Parser_closeLine s) (fun (x35 : mS) => x35))) else (mq_let (f_Parser_fail (1 : Int32) s) (fun (x36 : mS) => x36)))) else (if (gI s 80 3) = 16 then (if (gI s 80 8) = 1 then (mq_let (f_Parser_fail (1 : Int32) s) (fun (x37 : mS) => x37)) else (mq_let (f_Parser_closeLine s) (fun (x38 : mS) => x38))) else (mq_let (f_Parser_fail (1 : Int32) s) (fun (x39 : mS) => x39)))) else (mq_let (f_Parser_closeBracket s) (fun (x40 : mS) => x40))) else (if (gI s 80 3) = 12 then (if (gI s 80 8) = 0 then (mq_let (f_Parser_unwind (1 : Int32) s) (fun (x41 : mS) => (mq_let (gP x41 4) (fun (r42 : Nat) => (mq_let (f_Act_beginCondition r42 x41) (fun (x43 : mS) => sI x43 80 7 3)))))) else (if (gI s 80 3) = 16 then (if (gI s 80 8) = 1 then (mq_let (f_Parser_fail (1 : Int32) s) (fun (x44 : mS) => x44)) else (mq_let (f_Parser_closeLine s) (fun (x45 : mS) => x45))) else (mq_let (f_Parser_fail (1 : Int32) s) (fun (x46 : mS) => x46)))) else (if (gI s 80 3) = 16 then (if (gI s 80 8) = 1 then (mq_let (f_Parser_fail (1 : Int32) s) (fun (x47 : mS) => x47)) else (mq_let (f_Parser_closeLine s) (fun (x48 : mS) => x48))) else (mq_let (f_Parser_fail (1 : Int32) s) (fun (x49 : mS) => x49))))) else (mq_let (f_Parser_operate (3 : Int32) s) (fun (x50 : mS) => x50))) else (if (gI s 80 3) = 22 then (if x10 = 0 then (if (gI s 80 3) = 12 then (if (gI s 80 8) = 0 then (mq_let (f_Parser_unwind (1 : Int32) s) (fun (x51 : mS) => (mq_let (gP x51 4) (fun (r52 : Nat) => (mq_let (f_Act_beginCondition r52 x51) (fun (x53 : mS) => sI x53 80 7 3)))))) else (if (gI s 80 3) = 16 then (if (gI s 80 8) = 1 then (mq_let (f_Parser_fail (1 : Int32) s) (fun (x54 : mS) => x54)) else (mq_let (f_Parser_closeLine s) (fun (x55 : mS) => x55))) else (mq_let (f_Parser_fail (1 : Int32) s) (fun (x56 : mS) => x56)))) else (if (gI s 80 3) = 16 then (if (gI s 80 8) = 1 then (mq_let (f_Parser_fail (1 : Int32) s) (fun (x57 : mS) => x57)) else (mq_let (f_Parser_closeLine s) (fun (x58 : mS) => x58))) else (mq_let (f_Parser_fail (1 : Int32) s) (fun (x59 : mS) => x59)))) else (mq_let (f_Parser_closeBracket s) (fun (x60 : mS) => x60))) else (if (gI s 80 3) = 12 then (if (gI s 80 8) = 0 then (mq_let (f_Parser_unwind (1 : Int32) s) (fun (x61 : mS) => (mq_let (gP x61 4) (fun (r62 : Nat) => (mq_let (f_Act_beginCondition r62 x61) (fun (x63 : mS) => sI x63 80 7 3)))))) else (if (gI s 80 3) = 16 then (if (gI s 80 8) = 1 then (mq_let (f_Parser_fail (1 : Int32) s) (fun (x64 : mS) => x64)) else (mq_let (f_Parser_closeLine s) (fun (x65 : mS) => x65))) else (mq_let (f_Parser_fail (1 : Int32) s) (fun (x66 : mS) => x66)))) else (if (gI s 80 3) = 16 then (if (gI s 80 8) = 1 then (mq_let (f_Parser_fail (1 : Int32) s) (fun (x67 : mS) => x67)) else (mq_let (f_Parser_closeLine s) (fun (x68 : mS) => x68))) else (mq_let (f_Parser_fail (1 : Int32) s) (fun (x69 : mS) => x69))))))) else (if (25 : Int32) < (gI s 80 3) then (if (gI s 80 3) = 14 then (if x10 = 0 then (if (gI s 80 3) = 22 then (if x10 = 0 then (if (gI s 80 3) = 12 then (if (gI s 80 8) = 0 then (mq_let (f_Parser_unwind (1 : Int32) s) (fun (x70 : mS) => (mq_let (gP x70 4) (fun (r71 : Nat) => (mq_let (f_Act_beginCondition r71 x70) (fun (x72 : mS) => sI x72 80 7 3)))))) else (if (gI s 80 3) = 16 then (if (gI s 80 8) = 1 then (mq_let (f_Parser_fail (1 : Int32) s) (fun (x73 : mS) => x73)) else (mq_let (f_Parser_closeLine s) (fun (x74 : mS) => x74))) else (mq_let (f_Parser_fail (1 : Int32) s) (fun (x75 : mS) => x75)))) else (if (gI s 80 3) = 16 then (if (gI s 80 8) = 1 then (mq_let (f_Parser_fail (1 : Int32) s) (fun (x76 : mS) => x76)) else (mq_let (f_Parser_closeLine s) (fun (x77 : mS) => x77))) else (mq_let (f_Parser_fail (1 : Int32) s) (fun (x78 : mS) => x78)))) else (mq_let (f_Parser_closeBracket s) (fun (x79 : mS) => x79))) else (if (gI s 80 3) = 12 then (if (gI s 80 8) = 0 then (mq_let (f_Parser_unwind (1 : Int32) s) (fun (x80 : mS) => (mq_let (gP x80 4) (fun (r81 : Nat) => (mq_let (f_Act_beginCondition r81 x80) (fun (x82 : mS) => sI x82 80 7 3)))))) else (if (gI s 80 3) = 16 then (if (gI s 80 8) = 1 then (mq_let (f_Parser_fail (1 : Int32) s) (fun (x83 : mS) => x83)) else (mq_let (f_Parser_closeLine s) (fun (x84 : mS) => x84))) else (mq_let (f_Parser_fail (1 : Int32) s) (fun (x85 : mS) => x85)))) else (if (gI s 80 3) = 16 then (if (gI s 80 8) = 1 then (mq_let (f_Parser_fail (1 : Int32) s) (fun (x86 : mS) => x86)) else (mq_let (f_Parser_closeLine s) (fun (x87 : mS) => x87))) else (mq_let (f_Parser_fail (1 : Int32) s) (fun (x88 : mS) => x88))))) else (mq_let (f_Parser_operate (3 : Int32) s) (fun (x89 : mS) => x89))) else (if (gI s 80 3) = 13 then (if x10 = 0 then (if (gI s 80 3) = 22 then (if x10 = 0 then (if (gI s 80 3) = 12 then (if (gI s 80 8) = 0 then (mq_let (f_Parser_unwind (1 : Int32) s) (fun (x90 : mS) => (mq_let (gP x90 4) (fun (r91 : Nat) => (mq_let (f_Act_beginCondition r91 x90) (fun (x92 : mS) => sI x92 80 7 3)))))) else (if (gI s 80 3) = 16 then (if (gI s 80 8) = 1 then (mq_let (f_Parser_fail (1 : Int32) s) (fun (x93 : mS) => x93)) else (mq_let (f_Parser_closeLine s) (fun (x94 : mS) => x94))) else (mq_let (f_Parser_fail (1 : Int32) s) (fun (x95 : mS) => x95)))) else (if (gI s 80 3) = 16 then (if (gI s 80 8) = 1 then (mq_let (f_Parser_fail (1 : Int32) s) (fun (x96 : mS) => x96)) else (mq_let (f_Parser_closeLine s) (fun (x97 : mS) => x97))) else (mq_let (f_Parser_fail (1 : Int32) s) (fun (x98 : mS) => x98)))) else (mq_let (f_Parser_closeBracket s) (fun (x99 : mS) => x99))) else (if (gI s 80 3) = 12 then (if (gI s 80 8) = 0 then (mq_let (f_Parser_unwind (1 : Int32) s) (fun (x100 : mS) => (mq_let (gP x100 4) (fun (r101 : Nat) => (mq_let (f_Act_beginCondition r101 x100) (fun (x102 : mS) => sI x102 80 7 3)))))) else (if (gI s 80 3) = 16 then (if (gI s 80 8) = 1 then (mq_let (f_Parser_fail (1 : Int32) s) (fun (x103 : mS) => x103)) else (mq_let (f_Parser_closeLine s) (fun (x104 : mS) => x104))) else (mq_let (f_Parser_fail (1 : Int32) s) (fun (x105 : mS) => x105)))) else (if (gI s 80 3) = 16 then (if (gI s 80 8) = 1 then (mq_let (f_Parser_fail (1 : Int32) s) (fun (x106 : mS) => x106)) else (mq_let (f_Parser_closeLine s) (fun (x107 : mS) => x107))) else (mq_let (f_Parser_fail (1 : Int32) s) (fun (x108 : mS) => x108))))) else (mq_let (f_Parser_operate (3 : Int32) s) (fun (x109 : mS) => x109))) else (if (gI s 80 3) = 22 then (if x10 = 0 then (if (gI s 80 3) = 12 then (if (gI s 80 8) = 0 then (mq_let (f_Parser_unwind (1 : Int32) s) (fun (x110 : mS) => (mq_let (gP x110 4) (fun (r111 : Nat) => (mq_let (f_Act_beginCondition r111 x110) (fun (x112 : mS) => sI x112 80 7 3)))))) else (if (gI s 80 3) = 16 then (if (gI s 80 8) = 1 then (mq_let (f_Parser_fail (1 : Int32) s) (fun (x113 : mS) => x113)) else (mq_let (f_Parser_closeLine s) (fun (x114 : mS) => x114))) else (mq_let (f_Parser_fail (1 : Int32) s) (fun (x115 : mS) => x115)))) else (if (gI s 80 3) = 16 then (if (gI s 80 8) = 1 then (mq_let (f_Parser_fail (1 : Int32) s) (fun (x116 : mS) => x116)) else (mq_let (f_Parser_closeLine s) (fun (x117 : mS) => x117))) else (mq_let (f_Parser_fail (1 : Int32) s) (fun (x118 : mS) => x118)))) else (mq_let (f_Parser_closeBracket s) (fun (x119 : mS) => x119))) else (if (gI s 80 3) = 12 then (if (gI s 80 8) = 0 then (mq_let (f_Parser_unwind (1 : Int32) s) (fun (x120 : mS) => (mq_let (gP x120 4) (fun (r121 : Nat) => (mq_let (f_Act_beginCondition r121 x120) (fun (x122 : mS) => sI x122 80 7 3)))))) else (if (gI s 80 3) = 16 then (if (gI s 80 8) = 1 then (mq_let (f_Parser_fail (1 : Int32) s) (fun (x123 : mS) => x123)) else (mq_let (f_Parser_closeLine s) (fun (x124 : mS) => x124))) else (mq_let (f_Parser_fail (1 : Int32) s) (fun (x125 : mS) => x125)))) else (if (gI s 80 3) = 16 then (if (gI s 80 8) = 1 then (mq_let (f_Parser_fail (1 : Int32) s) (fun (x126 : mS) => x126)) else (mq_let (f_Parser_closeLine s) (fun (x127 : mS) => x127))) else (mq_let (f_Parser_fail (1 : Int32) s) (fun (x128 : mS) => x128))))))) else (if (gI s 80 8) = 1 then (mq_let (f_Parser_operate (1 : Int32) s) (fun (x129 : mS) => sI x129 80 8 2)) else (if (gI s 80 3) = 14 then (if x10 = 0 then (if (gI s 80 3) = 22 then (if x10 = 0 then (if (gI s 80 3) = 12 then (if (gI s 80 8) = 0 then (mq_let (f_Parser_unwind (1 : Int32) s) (fun (x130 : mS) => (mq_let (gP x130 4) (fun (r131 : Nat) => (mq_let (f_Act_beginCondition r131 x130) (fun (x132 : mS) => sI x132 80 7 3)))))) else (if (gI s 80 3) = 16 then (if (gI s 80 8) = 1 then (mq_let (f_Parser_fail (1 : Int32) s) (fun (x133 : mS) => x133)) else (mq_let (f_Parser_closeLine s) (fun (x134 : mS) => x134))) else (mq_let (f_Parser_fail (1 : Int32) s) (fun (x135 : mS) => x135)))) else (if (gI s 80 3) = 16 then (if (gI s 80 8) = 1 then (mq_let (f_Parser_fail (1 : Int32) s) (fun (x136 : mS) => x136)) else (mq_let (f_Parser_closeLine s) (fun (x137 : mS) => x137))) else (mq_let (f_Parser_fail (1 : Int32) s) (fun (x138 : mS) => x138)))) else (mq_let (f_Parser_closeBracket s) (fun (x139 : mS) => x139))) else (if (gI s 80 3) = 12 then (if (gI s 80 8) = 0 then (mq_let (f_Parser_unwind (1 : Int32) s) (fun (x140 : mS) => (mq_let (gP x140 4) (fun (r141 : Nat) => (mq_let (f_Act_beginCondition r141 x140) (fun (x142 : mS) => sI x142 80 7 3)))))) else (if (gI s 80 3) = 16 then (if (gI s 80 8) = 1 then (mq_let (f_Parser_fail (1 : Int32) s) (fun (x143 : mS) => x143)) else (mq_let (f_Parser_closeLine s) (fun (x144 : mS) => x144))) else (mq_let (f_Parser_fail (1 : Int32) s) (fun (x145 : mS) => x145)))) else (if (gI s 80 3) = 16 then (if (gI s 80 8) = 1 then (mq_let (f_Parser_fail (1 : Int32) s) (fun (x146 : mS) => x146)) else (mq_let (f_Parser_closeLine s) (fun (x147 : mS) => x147))) else (mq_let (f_Parser_fail (1 : Int32) s) (fun (x148 : mS) => x148))))) else (mq_let (f_Parser_operate (3 : Int32) s) (fun (x149 : mS) => x149))) else (if (gI s 80 3) = 13 then (if x10 = 0 then (if (gI s 80 3) = 22 then (if x10 = 0 then (if (gI s 80 3) = 12 then (if (gI s 80 8) = 0 then (mq_let (f_Parser_unwind (1 : Int32) s) (fun (x150 : mS) => (mq_let (gP x150 4) (fun (r151 : Nat) => (mq_let (f_Act_beginCondition r151 x150) (fun (x152 : mS) => sI x152 80 7 3)))))) else (if (gI s 80 3) = 16 then (if (gI s 80 8) = 1 then (mq_let (f_Parser_fail (1 : Int32) s) (fun (x153 : mS) => x153)) else (mq_let (f_Parser_closeLine s) (fun (x154 : mS) => x154))) else (mq_let (f_Parser_fail (1 : Int32) s) (fun (x155 : mS) => x155)))) else (if (gI s 80 3) = 16 then (if (gI s 80 8) = 1 then (mq_let (f_Parser_fail (1 : Int32) s) (fun (x156 : mS) => x156)) else (mq_let (f_Parser_closeLine s) (fun (x157 : mS) => x157))) else (mq_let (f_Parser_fail (1 : Int32) s) (fun (x158 : mS) => x158)))) else (mq_let (f_Parser_closeBracket s) (fun (x159 : mS) => x159))) else (if (gI s 80 3) = 12 then (if (gI s 80 8) = 0 then (mq_let (f_Parser_unwind (1 : Int32) s) (fun (x160 : mS) => (mq_let (gP x160 4) (fun (r161 : Nat) => (mq_let (f_Act_beginCondition r161 x160) (fun (x162 : mS) => sI x162 80 7 3)))))) else (if (gI s 80 3) = 16 then (if (gI s 80 8) = 1 then (mq_let (f_Parser_fail (1 : Int32) s) (fun (x163 : mS) => x163)) else (mq_let (f_Parser_closeLine s) (fun (x164 : mS) => x164))) else (mq_let (f_Parser_fail (1 : Int32) s) (fun (x165 : mS) => x165)))) else (if (gI s 80 3) = 16 then (if (gI s 80 8) = 1 then (mq_let (f_Parser_fail (1 : Int32) s) (fun (x166 : mS) => x166)) else (mq_let (f_Parser_closeLine s) (fun (x167 : mS) => x167))) else (mq_let (f_Parser_fail (1 : Int32) s) (fun (x168 : mS) => x168))))) else (mq_let (f_Parser_operate (3 : Int32) s) (fun (x169 : mS) => x169))) else (if (gI s 80 3) = 22 then (if x10 = 0 then (if (gI s 80 3) = 12 then (if (gI s 80 8) = 0 then (mq_let (f_Parser_unwind (1 : Int32) s) (fun (x170 : mS) => (mq_let (gP x170 4) (fun (r171 : Nat) => (mq_let (f_Act_beginCondition r171 x170) (fun (x172 : mS) => sI x172 80 7 3)))))) else (if (gI s 80 3) = 16 then (if (gI s 80 8) = 1 then (mq_let (f_Parser_fail (1 : Int32) s) (fun (x173 : mS) => x173)) else (mq_let (f_Parser_closeLine s) (fun (x174 : mS) => x174))) else (mq_let (f_Parser_fail (1 : Int32) s) (fun (x175 : mS) => x175)))) else (if (gI s 80 3) = 16 then (if (gI s 80 8) = 1 then (mq_let (f_Parser_fail (1 : Int32) s) (fun (x176 : mS) => x176)) else (mq_let (f_Parser_closeLine s) (fun (x177 : mS) => x177))) else (mq_let (f_Parser_fail (1 : Int32) s) (fun (x178 : mS) => x178)))) else (mq_let (f_Parser_closeBracket s) (fun (x179 : mS) => x179))) else (if (gI s 80 3) = 12 then (if (gI s 80 8) = 0 then (mq_let (f_Parser_unwind (1 : Int32) s) (fun (x180 : mS) => (mq_let (gP x180 4) (fun (r181 : Nat) => (mq_let (f_Act_beginCondition r181 x180) (fun (x182 : mS) => sI x182 80 7 3)))))) else (if (gI s 80 3) = 16 then (if (gI s 80 8) = 1 then (mq_let (f_Parser_fail (1 : Int32) s) (fun (x183 : mS) => x183)) else (mq_let (f_Parser_closeLine s) (fun (x184 : mS) => x184))) else (mq_let (f_Parser_fail (1 : Int32) s) (fun (x185 : mS) => x185)))) else (if (gI s 80 3) = 16 then (if (gI s 80 8) = 1 then (mq_let (f_Parser_fail (1 : Int32) s) (fun (x186 : mS) => x186)) else (mq_let (f_Parser_closeLine s) (fun (x187 : mS) => x187))) else (mq_let (f_Parser_fail (1 : Int32) s) (fun (x188 : mS) => x188)))))))))) else (if (20 : Int32) < (gI s 80 3) then (if (gI s 80 3) < 23 then (if (gI s 80 3) = 14 then (if x10 = 0 then (if (gI s 80 3) = 22 then (if x10 = 0 then (if (gI s 80 3) = 12 then (if (gI s 80 8) = 0 then (mq_let (f_Parser_unwind (1 : Int32) s) (fun (x189 : mS) => (mq_let (gP x189 4) (fun (r190 : Nat) => (mq_let (f_Act_beginCondition r190 x189) (fun (x191 : mS) => sI x191 80 7 3)))))) else (if (gI s 80 3) = 16 then (if (gI s 80 8) = 1 then (mq_let (f_Parser_fail (1 : Int32) s) (fun (x192 : mS) => x192)) else (mq_let (f_Parser_closeLine s) (fun (x193 : mS) => x193))) else (mq_let (f_Parser_fail (1 : Int32) s) (fun (x194 : mS) => x194)))) else (if (gI s 80 3) = 16 then (if (gI s 80 8) = 1 then (mq_let (f_Parser_fail (1 : Int32) s) (fun (x195 : mS) => x195)) else (mq_let (f_Parser_closeLine s) (fun (x196 : mS) => x196))) else (mq_let (f_Parser_fail (1 : Int32) s) (fun (x197 : mS) => x197)))) else (mq_let (f_Parser_closeBracket s) (fun (x198 : mS) => x198))) else (if (gI s 80 3) = 12 then (if (gI s 80 8) = 0 then (mq_let (f_Parser_unwind (1 : Int32) s) (fun (x199 : mS) => (mq_let (gP x199 4) (fun (r200 : Nat) => (mq_let (f_Act_beginCondition r200 x199) (fun (x201 : mS) => sI x201 80 7 3)))))) else (if (gI s 80 3) = 16 then (if (gI s 80 8) = 1 then (mq_let (f_Parser_fail (1 : Int32) s) (fun (x202 : mS) => x202)) else (mq_let (f_Parser_closeLine s) (fun (x203 : mS) => x203))) else (mq_let (f_Parser_fail (1 : Int32) s) (fun (x204 : mS) => x204)))) else (if (gI s 80 3) = 16 then (if (gI s 80 8) = 1 then (mq_let (f_Parser_fail (1 : Int32) s) (fun (x205 : mS) => x205)) else (mq_let (f_Parser_closeLine s) (fun (x206 : mS) => x206))) else (mq_let (f_Parser_fail (1 : Int32) s) (fun (x207 : mS) => x207))))) else (mq_let (f_Parser_operate (3 : Int32) s) (fun (x208 : mS) => x208))) else (if (gI s 80 3) = 13 then (if x10 = 0 then (if (gI s 80 3) = 22 then (if x10 = 0 then (if (gI s 80 3) = 12 then (if (gI s 80 8) = 0 then (mq_let (f_Parser_unwind (1 : Int32) s) (fun (x209 : mS) => (mq_let (gP x209 4) (fun (r210 : Nat) => (mq_let (f_Act_beginCondition r210 x209) (fun (x211 : mS) => sI x211 80 7 3)))))) else (if (gI s 80 3) = 16 then (if (gI s 80 8) = 1 then (mq_let (f_Parser_fail (1 : Int32) s) (fun (x212 : mS) => x212)) else (mq_let (f_Parser_closeLine s) (fun (x213 : mS) => x213))) else (mq_let (f_Parser_fail (1 : Int32) s) (fun (x214 : mS) => x214)))) else (if (gI s 80 3) = 16 then (if (gI s 80 8) = 1 then (mq_let (f_Parser_fail (1 : Int32) s) (fun (x215 : mS) => x215)) else (mq_let (f_Parser_closeLine s) (fun (x216 : mS) => x216))) else (mq_let (f_Parser_fail (1 : Int32) s) (fun (x217 : mS) => x217)))) else (mq_let (f_Parser_closeBracket s) (fun (x218 : mS) => x218))) else (if (gI s 80 3) = 12 then (if (gI s 80 8) = 0 then (mq_let (f_Parser_unwind (1 : Int32) s) (fun (x219 : mS) => (mq_let (gP x219 4) (fun (r220 : Nat) => (mq_let (f_Act_beginCondition r220 x219) (fun (x221 : mS) => sI x221 80 7 3)))))) else (if (gI s 80 3) = 16 then (if (gI s 80 8) = 1 then (mq_let (f_Parser_fail (1 : Int32) s) (fun (x222 : mS) => x222)) else (mq_let (f_Parser_closeLine s) (fun (x223 : mS) => x223))) else (mq_let (f_Parser_fail (1 : Int32) s) (fun (x224 : mS) => x224)))) else (if (gI s 80 3) = 16 then (if (gI s 80 8) = 1 then (mq_let (f_Parser_fail (1 : Int32) s) (fun (x225 : mS) => x225)) else (mq_let (f_Parser_closeLine s) (fun (x226 : mS) => x226))) else (mq_let (f_Parser_fail (1 : Int32) s) (fun (x227 : mS) => x227))))) else (mq_let (f_Parser_operate (3 : Int32) s) (fun (x228 : mS) => x228))) else (if (gI s 80 3) = 22 then (if x10 = 0 then (if (gI s 80 3) = 12 then (if (gI s 80 8) = 0 then (mq_let (f_Parser_unwind (1 : Int32) s) (fun (x229 : mS) => (mq_let (gP x229 4) (fun (r230 : Nat) => (mq_let (f_Act_beginCondition r230 x229) (fun (x231 : mS) => sI x231 80 7 3)))))) else (if (gI s 80 3) = 16 then (if (gI s 80 8) = 1 then (mq_let (f_Parser_fail (1 : Int32) s) (fun (x232 : mS) => x232)) else (mq_let (f_Parser_closeLine s) (fun (x233 : mS) => x233))) else (mq_let (f_Parser_fail (1 : Int32) s) (fun (x234 : mS) => x234)))) else (if (gI s 80 3) = 16 then (if (gI s 80 8) = 1 then (mq_let (f_Parser_fail (1 : Int32) s) (fun (x235 : mS) => x235)) else (mq_let (f_Parser_closeLine s) (fun (x236 : mS) => x236))) else (mq_let (f_Parser_fail (1 : Int32) s) (fun (x237 : mS) => x237)))) else (mq_let (f_Parser_closeBracket s) (fun (x238 : mS) => x238))) else (if (gI s 80 3) = 12 then (if (gI s 80 8) = 0 then (mq_let (f_Parser_unwind (1 : Int32) s) (fun (x239 : mS) => (mq_let (gP x239 4) (fun (r240 : Nat) => (mq_let (f_Act_beginCondition r240 x239) (fun (x241 : mS) => sI x241 80 7 3)))))) else (if (gI s 80 3) = 16 then (if (gI s 80 8) = 1 then (mq_let (f_Parser_fail (1 : Int32) s) (fun (x242 : mS) => x242)) else (mq_let (f_Parser_closeLine s) (fun (x243 : mS) => x243))) else (mq_let (f_Parser_fail (1 : Int32) s) (fun (x244 : mS) => x244)))) else (if (gI s 80 3) = 16 then (if (gI s 80 8) = 1 then (mq_let (f_Parser_fail (1 : Int32) s) (fun (x245 : mS) => x245)) else (mq_let (f_Parser_closeLine s) (fun (x246 : mS) => x246))) else (mq_let (f_Parser_fail (1 : Int32) s) (fun (x247 : mS) => x247))))))) else (if (25 : Int32) < (gI s 80 3) then (if (gI s 80 3) = 14 then (if x10 = 0 then (if (gI s 80 3) = 22 then (if x10 = 0 then (if (gI s 80 3) = 12 then (if (gI s 80 8) = 0 then (mq_let (f_Parser_unwind (1 : Int32) s) (fun (x248 : mS) => (mq_let (gP x248 4) (fun (r249 : Nat) => (mq_let (f_Act_beginCondition r249 x248) (fun (x250 : mS) => sI x250 80 7 3)))))) else (if (gI s 80 3) = 16 then (if (gI s 80 8) = 1 then (mq_let (f_Parser_fail (1 : Int32) s) (fun (x251 : mS) => x251)) else (mq_let (f_Parser_closeLine s) (fun (x252 : mS) => x252))) else (mq_let (f_Parser_fail (1 : Int32) s) (fun (x253 : mS) => x253)))) else (if (gI s 80 3) = 16 then (if (gI s 80 8) = 1 then (mq_let (f_Parser_fail (1 : Int32) s) (fun (x254 : mS) => x254)) else (mq_let (f_Parser_closeLine s) (fun (x255 : mS) => x255))) else (mq_let (f_Parser_fail (1 : Int32) s) (fun (x256 : mS) => x256)))) else (mq_let (f_Parser_closeBracket s) (fun (x257 : mS) => x257))) else (if (gI s 80 3) = 12 then (if (gI s 80 8) = 0 then (mq_let (f_Parser_unwind (1 : Int32) s) (fun (x258 : mS) => (mq_let (gP x258 4) (fun (r259 : Nat) => (mq_let (f_Act_beginCondition r259 x258) (fun (x260 : mS) => sI x260 80 7 3)))))) else (if (gI s 80 3) = 16 then (if (gI s 80 8) = 1 then (mq_let (f_Parser_fail (1 : Int32) s) (fun (x261 : mS) => x261)) else (mq_let (f_Parser_closeLine s) (fun (x262 : mS) => x262))) else (mq_let (f_Parser_fail (1 : Int32) s) (fun (x263 : mS) => x263)))) else (if (gI s 80 3) = 16 then (if (gI s 80 8) = 1 then (mq_let (f_Parser_fail (1 : Int32) s) (fun (x264 : mS) => x264)) else (mq_let (f_Parser_closeLine s) (fun (x265 : mS) => x265))) else (mq_let (f_Parser_fail (1 : Int32) s) (fun (x266 : mS) => x266))))) else (mq_let (f_Parser_operate (3 : Int32) s) (fun (x267 : mS) => x267))) else (if (gI s 80 3) = 13 then (if x10 = 0 then (if (gI s 80 3) = 22 then (if x10 = 0 then (if (gI s 80 3) = 12 then (if (gI s 80 8) = 0 then (mq_let (f_Parser_unwind (1 : Int32) s) (fun (x268 : mS) => (mq_let (gP x268 4) (fun (r269 : Nat) => (mq_let (f_Act_beginCondition r269 x268) (fun (x270 : mS) => sI x270 80 7 3)))))) else (if (gI s 80 3) = 16 then (if (gI s 80 8) = 1 then (mq_let (f_Parser_fail (1 : Int32) s) (fun (x271 : mS) => x271)) else (mq_let (f_Parser_closeLine s) (fun (x272 : mS) => x272))) else (mq_let (f_Parser_fail (1 : Int32) s) (fun (x273 : mS) => x273)))) else (if (gI s 80 3) = 16 then (if (gI s 80 8) = 1 then (mq_let (f_Parser_fail (1 : Int32) s) (fun (x274 : mS) => x274)) else (mq_let (f_Parser_closeLine s) (fun (x275 : mS) => x275))) else (mq_let (f_Parser_fail (1 : Int32) s) (fun (x276 : mS) => x276)))) else (mq_let (f_Parser_closeBracket s) (fun (x277 : mS) => x277))) else (if (gI s 80 3) = 12 then (if (gI s 80 8) = 0 then (mq_let (f_Parser_unwind (1 : Int32) s) (fun (x278 : mS) => (mq_let (gP x278 4) (fun (r279 : Nat) => (mq_let (f_Act_beginCondition r279 x278) (fun (x280 : mS) => sI x280 80 7 3)))))) else (if (gI s 80 3) = 16 then (if (gI s 80 8) = 1 then (mq_let (f_Parser_fail (1 : Int32) s) (fun (x281 : mS) => x281)) else (mq_let (f_Parser_closeLine s) (fun (x282 : mS) => x282))) else (mq_let (f_Parser_fail (1 : Int32) s) (fun (x283 : mS) => x283)))) else (if (gI s 80 3) = 16 then (if (gI s 80 8) = 1 then (mq_let (f_Parser_fail (1 : Int32) s) (fun (x284 : mS) => x284)) else (mq_let (f_Parser_closeLine s) (fun (x285 : mS) => x285))) else (mq_let (f_Parser_fail (1 : Int32) s) (fun (x286 : mS) => x286))))) else (mq_let (f_Parser_operate (3 : Int32) s) (fun (x287 : mS) => x287))) else (if (gI s 80 3) = 22 then (if x10 = 0 then (if (gI s 80 3) = 12 then (if (gI s 80 8) = 0 then (mq_let (f_Parser_unwind (1 : Int32) s) (fun (x288 : mS) => (mq_let (gP x288 4) (fun (r289 : Nat) => (mq_let (f_Act_beginCondition r289 x288) (fun (x290 : mS) => sI x290 80 7 3)))))) else (if (gI s 80 3) = 16 then (if (gI s 80 8) = 1 then (mq_let (f_Parser_fail (1 : Int32) s) (fun (x291 : mS) => x291)) else (mq_let (f_Parser_closeLine s) (fun (x292 : mS) => x292))) else (mq_let (f_Parser_fail (1 : Int32) s) (fun (x293 : mS) => x293)))) else (if (gI s 80 3) = 16 then (if (gI s 80 8) = 1 then (mq_let (f_Parser_fail (1 : Int32) s) (fun (x294 : mS) => x294)) else (mq_let (f_Parser_closeLine s) (fun (x295 : mS) => x295))) else (mq_let (f_Parser_fail (1 : Int32) s) (fun (x296 : mS) => x296)))) else (mq_let (f_Parser_closeBracket s) (fun (x297 : mS) => x297))) else (if (gI s 80 3) = 12 then (if (gI s 80 8) = 0 then (mq_let (f_Parser_unwind (1 : Int32) s) (fun (x298 : mS) => (mq_let (gP x298 4) (fun (r299 : Nat) => (mq_let (f_Act_beginCondition r299 x298) (fun (x300 : mS) => sI x300 80 7 3)))))) else (if (gI s 80 3) = 16 then (if (gI s 80 8) = 1 then (mq_let (f_Parser_fail (1 : Int32) s) (fun (x301 : mS) => x301)) else (mq_let (f_Parser_closeLine s) (fun (x302 : mS) => x302))) else (mq_let (f_Parser_fail (1 : Int32) s) (fun (x303 : mS) => x303)))) else (if (gI s 80 3) = 16 then (if (gI s 80 8) = 1 then (mq_let (f_Parser_fail (1 : Int32) s) (fun (x304 : mS) => x304)) else (mq_let (f_Parser_closeLine s) (fun (x305 : mS) => x305))) else (mq_let (f_Parser_fail (1 : Int32) s) (fun (x306 : mS) => x306))))))) else (if (gI s 80 8) = 1 then (mq_let (f_Parser_operate (1 : Int32) s) (fun (x307 : mS) => sI x307 80 8 2)) else (if (gI s 80 3) = 14 then (if x10 = 0 then (if (gI s 80 3) = 22 then (if x10 = 0 then (if (gI s 80 3) = 12 then (if (gI s 80 8) = 0 then (mq_let (f_Parser_unwind (1 : Int32) s) (fun (x308 : mS) => (mq_let (gP x308 4) (fun (r309 : Nat) => (mq_let (f_Act_beginCondition r309 x308) (fun (x310 : mS) => sI x310 80 7 3)))))) else (if (gI s 80 3) = 16 then (if (gI s 80 8) = 1 then (mq_let (f_Parser_fail (1 : Int32) s) (fun (x311 : mS) => x311)) else (mq_let (f_Parser_closeLine s) (fun (x312 : mS) => x312))) else (mq_let (f_Parser_fail (1 : Int32) s) (fun (x313 : mS) => x313)))) else (if (gI s 80 3) = 16 then (if (gI s 80 8) = 1 then (mq_let (f_Parser_fail (1 : Int32) s) (fun (x314 : mS) => x314)) else (mq_let (f_Parser_closeLine s) (fun (x315 : mS) => x315))) else (mq_let (f_Parser_fail (1 : Int32) s) (fun (x316 : mS) => x316)))) else (mq_let (f_Parser_closeBracket s) (fun (x317 : mS) => x317))) else (if (gI s 80 3) = 12 then (if (gI s 80 8) = 0 then (mq_let (f_Parser_unwind (1 : Int32) s) (fun (x318 : mS) => (mq_let (gP x318 4) (fun (r319 : Nat) => (mq_let (f_Act_beginCondition r319 x318) (fun (x320 : mS) => sI x320 80 7 3)))))) else (if (gI s 80 3) = 16 then (if (gI s 80 8) = 1 then (mq_let (f_Parser_fail (1 : Int32) s) (fun (x321 : mS) => x321)) else (mq_let (f_Parser_closeLine s) (fun (x322 : mS) => x322))) else (mq_let (f_Parser_fail (1 : Int32) s) (fun (x323 : mS) => x323)))) else (if (gI s 80 3) = 16 then (if (gI s 80 8) = 1 then (mq_let (f_Parser_fail (1 : Int32) s) (fun (x324 : mS) => x324)) else (mq_let (f_Parser_closeLine s) (fun (x325 : mS) => x325))) else (mq_let (f_Parser_fail (1 : Int32) s) (fun (x326 : mS) => x326))))) else (mq_let (f_Parser_operate (3 : Int32) s) (fun (x327 : mS) => x327))) else (if (gI s 80 3) = 13 then (if x10 = 0 then (if (gI s 80 3) = 22 then (if x10 = 0 then (if (gI s 80 3) = 12 then (if (gI s 80 8) = 0 then (mq_let (f_Parser_unwind (1 : Int32) s) (fun (x328 : mS) => (mq_let (gP x328 4) (fun (r329 : Nat) => (mq_let (f_Act_beginCondition r329 x328) (fun (x330 : mS) => sI x330 80 7 3)))))) else (if (gI s 80 3) = 16 then (if (gI s 80 8) = 1 then (mq_let (f_Parser_fail (1 : Int32) s) (fun (x331 : mS) => x331)) else (mq_let (f_Parser_closeLine s) (fun (x332 : mS) => x332))) else (mq_let (f_Parser_fail (1 : Int32) s) (fun (x333 : mS) => x333)))) else (if (gI s 80 3) = 16 then (if (gI s 80 8) = 1 then (mq_let (f_Parser_fail (1 : Int32) s) (fun (x334 : mS) => x334)) else (mq_let (f_Parser_closeLine s) (fun (x335 : mS) => x335))) else (mq_let (f_Parser_fail (1 : Int32) s) (fun (x336 : mS) => x336)))) else (mq_let (f_Parser_closeBracket s) (fun (x337 : mS) => x337))) else (if (gI s 80 3) = 12 then (if (gI s 80 8) = 0 then (mq_let (f_Parser_unwind (1 : Int32) s) (fun (x338 : mS) => (mq_let (gP x338 4) (fun (r339 : Nat) => (mq_let (f_Act_beginCondition r339 x338) (fun (x340 : mS) => sI x340 80 7 3)))))) else (if (gI s 80 3) = 16 then (if (gI s 80 8) = 1 then (mq_let (f_Parser_fail (1 : Int32) s) (fun (x341 : mS) => x341)) else (mq_let (f_Parser_closeLine s) (fun (x342 : mS) => x342))) else (mq_let (f_Parser_fail (1 : Int32) s) (fun (x343 : mS) => x343)))) else (if (gI s 80 3) = 16 then (if (gI s 80 8) = 1 then (mq_let (f_Parser_fail (1 : Int32) s) (fun (x344 : mS) => x344)) else (mq_let (f_Parser_closeLine s) (fun (x345 : mS) => x345))) else (mq_let (f_Parser_fail (1 : Int32) s) (fun (x346 : mS) => x346))))) else (mq_let (f_Parser_operate (3 : Int32) s) (fun (x347 : mS) => x347))) else (if (gI s 80 3) = 22 then (if x10 = 0 then (if (gI s 80 3) = 12 then (if (gI s 80 8) = 0 then (mq_let (f_Parser_unwind (1 : Int32) s) (fun (x348 : mS) => (mq_let (gP x348 4) (fun (r349 : Nat) => (mq_let (f_Act_beginCondition r349 x348) (fun (x350 : mS) => sI x350 80 7 3)))))) else (if (gI s 80 3) = 16 then (if (gI s 80 8) = 1 then (mq_let (f_Parser_fail (1 : Int32) s) (fun (x351 : mS) => x351)) else (mq_let (f_Parser_closeLine s) (fun (x352 : mS) => x352))) else (mq_let (f_Parser_fail (1 : Int32) s) (fun (x353 : mS) => x353)))) else (if (gI s 80 3) = 16 then (if (gI s 80 8) = 1 then (mq_let (f_Parser_fail (1 : Int32) s) (fun (x354 : mS) => x354)) else (mq_let (f_Parser_closeLine s) (fun (x355 : mS) => x355))) else (mq_let (f_Parser_fail (1 : Int32) s) (fun (x356 : mS) => x356)))) else (mq_let (f_Parser_closeBracket s) (fun (x357 : mS) => x357))) else (if (gI s 80 3) = 12 then (if (gI s 80 8) = 0 then (mq_let (f_Parser_unwind (1 : Int32) s) (fun (x358 : mS) => (mq_let (gP x358 4) (fun (r359 : Nat) => (mq_let (f_Act_beginCondition r359 x358) (fun (x360 : mS) => sI x360 80 7 3)))))) else (if (gI s 80 3) = 16 then (if (gI s 80 8) = 1 then (mq_let (f_Parser_fail (1 : Int32) s) (fun (x361 : mS) => x361)) else (mq_let (f_Parser_closeLine s) (fun (x362 : mS) => x362))) else (mq_let (f_Parser_fail (1 : Int32) s) (fun (x363 : mS) => x363)))) else (if (gI s 80 3) = 16 then (if (gI s 80 8) = 1 then (mq_let (f_Parser_fail (1 : Int32) s) (fun (x364 : mS) => x364)) else (mq_let (f_Parser_closeLine s) (fun (x365 : mS) => x365))) else (mq_let (f_Parser_fail (1 : Int32) s) (fun (x366 : mS) => x366)))))))))) else (if (gI s 80 8) = 3 then (if (gI s 80 3) < 23 then (if (gI s 80 3) = 14 then (if x10 = 0 then (if (gI s 80 3) = 22 then (if x10 = 0 then (if (gI s 80 3) = 12 then (if (gI s 80 8) = 0 then (mq_let (f_Parser_unwind (1 : Int32) s) (fun (x367 : mS) => (mq_let (gP x367 4) (fun (r368 : Nat) => (mq_let (f_Act_beginCondition r368 x367) (fun (x369 : mS) => sI x369 80 7 3)))))) else (if (gI s 80 3) = 16 then (if (gI s 80 8) = 1 then (mq_let (f_Parser_fail (1 : Int32) s) (fun (x370 : mS) => x370)) else (mq_let (f_Parser_closeLine s) (fun (x371 : mS) => x371))) else (mq_let (f_Parser_fail (1 : Int32) s) (fun (x372 : mS) => x372)))) else (if (gI s 80 3) = 16 then (if (gI s 80 8) = 1 then (mq_let (f_Parser_fail (1 : Int32) s) (fun (x373 : mS) => x373)) else (mq_let (f_Parser_closeLine s) (fun (x374 : mS) => x374))) else (mq_let (f_Parser_fail (1 : Int32) s) (fun (x375 : mS) => x375)))) else (mq_let (f_Parser_closeBracket s) (fun (x376 : mS) => x376))) else (if (gI s 80 3) = 12 then (if (gI s 80 8) = 0 then (mq_let (f_Parser_unwind (1 : Int32) s) (fun (x377 : mS) => (mq_let (gP x377 4) (fun (r378 : Nat) => (mq_let (f_Act_beginCondition r378 x377) (fun (x379 : mS) => sI x379 80 7 3)))))) else (if (gI s 80 3) = 16 then (if (gI s 80 8) = 1 then (mq_let (f_Parser_fail (1 : Int32) s) (fun (x380 : mS) => x380)) else (mq_let (f_Parser_closeLine s) (fun (x381 : mS) => x381))) else (mq_let (f_Parser_fail (1 : Int32) s) (fun (x382 : mS) => x382)))) else (if (gI s 80 3) = 16 then (if (gI s 80 8) = 1 then (mq_let (f_Parser_fail (1 : Int32) s) (fun (x383 : mS) => x383)) else (mq_let (f_Parser_closeLine s) (fun (x384 : mS) => x384))) else (mq_let (f_Parser_fail (1 : Int32) s) (fun (x385 : mS) => x385))))) else (mq_let (f_Parser_operate (3 : Int32) s) (fun (x386 : mS) => x386))) else (if (gI s 80 3) = 13 then (if x10 = 0 then (if (gI s 80 3) = 22 then (if x10 = 0 then (if (gI s 80 3) = 12 then (if (gI s 80 8) = 0 then (mq_let (f_Parser_unwind (1 : Int32) s) (fun (x387 : mS) => (mq_let (gP x387 4) (fun (r388 : Nat) => (mq_let (f_Act_beginCondition r388 x387) (fun (x389 : mS) => sI x389 80 7 3)))))) else (if (gI s 80 3) = 16 then (if (gI s 80 8) = 1 then (mq_let (f_Parser_fail (1 : Int32) s) (fun (x390 : mS) => x390)) else (mq_let (f_Parser_closeLine s) (fun (x391 : mS) => x391))) else (mq_let (f_Parser_fail (1 : Int32) s) (fun (x392 : mS) => x392)))) else (if (gI s 80 3) = 16 then (if (gI s 80 8) = 1 then (mq_let (f_Parser_fail (1 : Int32) s) (fun (x393 : mS) => x393)) else (mq_let (f_Parser_closeLine s) (fun (x394 : mS) => x394))) else (mq_let (f_Parser_fail (1 : Int32) s) (fun (x395 : mS) => x395)))) else (mq_let (f_Parser_closeBracket s) (fun (x396 : mS) => x396))) else (if (gI s 80 3) = 12 then (if (gI s 80 8) = 0 then (mq_let (f_Parser_unwind (1 : Int32) s) (fun (x397 : mS) => (mq_let (gP x397 4) (fun (r398 : Nat) => (mq_let (f_Act_beginCondition r398 x397) (fun (x399 : mS) => sI x399 80 7 3)))))) else (if (gI s 80 3) = 16 then (if (gI s 80 8) = 1 then (mq_let (f_Parser_fail (1 : Int32) s) (fun (x400 : mS) => x400)) else (mq_let (f_Parser_closeLine s) (fun (x401 : mS) => x401))) else (mq_let (f_Parser_fail (1 : Int32) s) (fun (x402 : mS) => x402)))) else (if (gI s 80 3) = 16 then (if (gI s 80 8) = 1 then (mq_let (f_Parser_fail (1 : Int32) s) (fun (x403 : mS) => x403)) else (mq_let (f_Parser_closeLine s) (fun (x404 : mS) => x404))) else (mq_let (f_Parser_fail (1 : Int32) s) (fun (x405 : mS) => x405))))) else (mq_let (f_Parser_operate (3 : Int32) s) (fun (x406 : mS) => x406))) else (if (gI s 80 3) = 22 then (if x10 = 0 then (if (gI s 80 3) = 12 then (if (gI s 80 8) = 0 then (mq_let (f_Parser_unwind (1 : Int32) s) (fun (x407 : mS) => (mq_let (gP x407 4) (fun (r408 : Nat) => (mq_let (f_Act_beginCondition r408 x407) (fun (x409 : mS) => sI x409 80 7 3)))))) else (if (gI s 80 3) = 16 then (if (gI s 80 8) = 1 then (mq_let (f_Parser_fail (1 : Int32) s) (fun (x410 : mS) => x410)) else (mq_let (f_Parser_closeLine s) (fun (x411 : mS) => x411))) else (mq_let (f_Parser_fail (1 : Int32) s) (fun (x412 : mS) => x412)))) else (if (gI s 80 3) = 16 then (if (gI s 80 8) = 1 then (mq_let (f_Parser_fail (1 : Int32) s) (fun (x413 : mS) => x413)) else (mq_let (f_Parser_closeLine s) (fun (x414 : mS) => x414))) else (mq_let (f_Parser_fail (1 : Int32) s) (fun (x415 : mS) => x415)))) else (mq_let (f_Parser_closeBracket s) (fun (x416 : mS) => x416))) else (if (gI s 80 3) = 12 then (if (gI s 80 8) = 0 then (mq_let (f_Parser_unwind (1 : Int32) s) (fun (x417 : mS) => (mq_let (gP x417 4) (fun (r418 : Nat) => (mq_let (f_Act_beginCondition r418 x417) (fun (x419 : mS) => sI x419 80 7 3)))))) else (if (gI s 80 3) = 16 then (if (gI s 80 8) = 1 then (mq_let (f_Parser_fail (1 : Int32) s) (fun (x420 : mS) => x420)) else (mq_let (f_Parser_closeLine s) (fun (x421 : mS) => x421))) else (mq_let (f_Parser_fail (1 : Int32) s) (fun (x422 : mS) => x422)))) else (if (gI s 80 3) = 16 then (if (gI s 80 8) = 1 then (mq_let (f_Parser_fail (1 : Int32) s) (fun (x423 : mS) => x423)) else (mq_let (f_Parser_closeLine s) (fun (x424 : mS) => x424))) else (mq_let (f_Parser_fail (1 : Int32) s) (fun (x425 : mS) => x425))))))) else (if (25 : Int32) < (gI s 80 3) then (if (gI s 80 3) = 14 then (if x10 = 0 then (if (gI s 80 3) = 22 then (if x10 = 0 then (if (gI s 80 3) = 12 then (if (gI s 80 8) = 0 then (mq_let (f_Parser_unwind (1 : Int32) s) (fun (x426 : mS) => (mq_let (gP x426 4) (fun (r427 : Nat) => (mq_let (f_Act_beginCondition r427 x426) (fun (x428 : mS) => sI x428 80 7 3)))))) else (if (gI s 80 3) = 16 then (if (gI s 80 8) = 1 then (mq_let (f_Parser_fail (1 : Int32) s) (fun (x429 : mS) => x429)) else (mq_let (f_Parser_closeLine s) (fun (x430 : mS) => x430))) else (mq_let (f_Parser_fail (1 : Int32) s) (fun (x431 : mS) => x431)))) else (if (gI s 80 3) = 16 then (if (gI s 80 8) = 1 then (mq_let (f_Parser_fail (1 : Int32) s) (fun (x432 : mS) => x432)) else (mq_let (f_Parser_closeLine s) (fun (x433 : mS) => x433))) else (mq_let (f_Parser_fail (1 : Int32) s) (fun (x434 : mS) => x434)))) else (mq_let (f_Parser_closeBracket s) (fun (x435 : mS) => x435))) else (if (gI s 80 3) = 12 then (if (gI s 80 8) = 0 then (mq_let (f_Parser_unwind (1 : Int32) s) (fun (x436 : mS) => (mq_let (gP x436 4) (fun (r437 : Nat) => (mq_let (f_Act_beginCondition r437 x436) (fun (x438 : mS) => sI x438 80 7 3)))))) else (if (gI s 80 3) = 16 then (if (gI s 80 8) = 1 then (mq_let (f_Parser_fail (1 : Int32) s) (fun (x439 : mS) => x439)) else (mq_let (f_Parser_closeLine s) (fun (x440 : mS) => x440))) else (mq_let (f_Parser_fail (1 : Int32) s) (fun (x441 : mS) => x441)))) else (if (gI s 80 3) = 16 then (if (gI s 80 8) = 1 then (mq_let (f_Parser_fail (1 : Int32) s) (fun (x442 : mS) => x442)) else (mq_let (f_Parser_closeLine s) (fun (x443 : mS) => x443))) else (mq_let (f_Parser_fail (1 : Int32) s) (fun (x444 : mS) => x444))))) else (mq_let (f_Parser_operate (3 : Int32) s) (fun (x445 : mS) => x445))) else (if (gI s 80 3) = 13 then (if x10 = 0 then (if (gI s 80 3) = 22 then (if x10 = 0 then (if (gI s 80 3) = 12 then (if (gI s 80 8) = 0 then (mq_let (f_Parser_unwind (1 : Int32) s) (fun (x446 : mS) => (mq_let (gP x446 4) (fun (r447 : Nat) => (mq_let (f_Act_beginCondition r447 x446) (fun (x448 : mS) => sI x448 80 7 3)))))) else (if (gI s 80 3) = 16 then (if (gI s 80 8) = 1 then (mq_let (f_Parser_fail (1 : Int32) s) (fun (x449 : mS) => x449)) else (mq_let (f_Parser_closeLine s) (fun (x450 : mS) => x450))) else (mq_let (f_Parser_fail (1 : Int32) s) (fun (x451 : mS) => x451)))) else (if (gI s 80 3) = 16 then (if (gI s 80 8) = 1 then (mq_let (f_Parser_fail (1 : Int32) s) (fun (x452 : mS) => x452)) else (mq_let (f_Parser_closeLine s) (fun (x453 : mS) => x453))) else (mq_let (f_Parser_fail (1 : Int32) s) (fun (x454 : mS) => x454)))) else (mq_let (f_Parser_closeBracket s) (fun (x455 : mS) => x455))) else (if (gI s 80 3) = 12 then (if (gI s 80 8) = 0 then (mq_let (f_Parser_unwind (1 : Int32) s) (fun (x456 : mS) => (mq_let (gP x456 4) (fun (r457 : Nat) => (mq_let (f_Act_beginCondition r457 x456) (fun (x458 : mS) => sI x458 80 7 3)))))) else (if (gI s 80 3) = 16 then (if (gI s 80 8) = 1 then (mq_let (f_Parser_fail (1 : Int32) s) (fun (x459 : mS) => x459)) else (mq_let (f_Parser_closeLine s) (fun (x460 : mS) => x460))) else (mq_let (f_Parser_fail (1 : Int32) s) (fun (x461 : mS) => x461)))) else (if (gI s 80 3) = 16 then (if (gI s 80 8) = 1 then (mq_let (f_Parser_fail (1 : Int32) s) (fun (x462 : mS) => x462)) else (mq_let (f_Parser_closeLine s) (fun (x463 : mS) => x463))) else (mq_let (f_Parser_fail (1 : Int32) s) (fun (x464 : mS) => x464))))) else (mq_let (f_Parser_operate (3 : Int32) s) (fun (x465 : mS) => x465))) else (if (gI s 80 3) = 22 then (if x10 = 0 then (if (gI s 80 3) = 12 then (if (gI s 80 8) = 0 then (mq_let (f_Parser_unwind (1 : Int32) s) (fun (x466 : mS) => (mq_let (gP x466 4) (fun (r467 : Nat) => (mq_let (f_Act_beginCondition r467 x466) (fun (x468 : mS) => sI x468 80 7 3)))))) else (if (gI s 80 3) = 16 then (if (gI s 80 8) = 1 then (mq_let (f_Parser_fail (1 : Int32) s) (fun (x469 : mS) => x469)) else (mq_let (f_Parser_closeLine s) (fun (x470 : mS) => x470))) else (mq_let (f_Parser_fail (1 : Int32) s) (fun (x471 : mS) => x471)))) else (if (gI s 80 3) = 16 then (if (gI s 80 8) = 1 then (mq_let (f_Parser_fail (1 : Int32) s) (fun (x472 : mS) => x472)) else (mq_let (f_Parser_closeLine s) (fun (x473 : mS) => x473))) else (mq_let (f_Parser_fail (1 : Int32) s) (fun (x474 : mS) => x474)))) else (mq_let (f_Parser_closeBracket s) (fun (x475 : mS) => x475))) else (if (gI s 80 3) = 12 then (if (gI s 80 8) = 0 then (mq_let (f_Parser_unwind (1 : Int32) s) (fun (x476 : mS) => (mq_let (gP x476 4) (fun (r477 : Nat) => (mq_let (f_Act_beginCondition r477 x476) (fun (x478 : mS) => sI x478 80 7 3)))))) else (if (gI s 80 3) = 16 then (if (gI s 80 8) = 1 then (mq_let (f_Parser_fail (1 : Int32) s) (fun (x479 : mS) => x479)) else (mq_let (f_Parser_closeLine s) (fun (x480 : mS) => x480))) else (mq_let (f_Parser_fail (1 : Int32) s) (fun (x481 : mS) => x481)))) else (if (gI s 80 3) = 16 then (if (gI s 80 8) = 1 then (mq_let (f_Parser_fail (1 : Int32) s) (fun (x482 : mS) => x482)) else (mq_let (f_Parser_closeLine s) (fun (x483 : mS) => x483))) else (mq_let (f_Parser_fail (1 : Int32) s) (fun (x484 : mS) => x484))))))) else (if (gI s 80 8) = 1 then (mq_let (f_Parser_operate (1 : Int32) s) (fun (x485 : mS) => sI x485 80 8 2)) else (if (gI s 80 3) = 14 then (if x10 = 0 then (if (gI s 80 3) = 22 then (if x10 = 0 then (if (gI s 80 3) = 12 then (if (gI s 80 8) = 0 then (mq_let (f_Parser_unwind (1 : Int32) s) (fun (x486 : mS) => (mq_let (gP x486 4) (fun (r487 : Nat) => (mq_let (f_Act_beginCondition r487 x486) (fun (x488 : mS) => sI x488 80 7 3)))))) else (if (gI s 80 3) = 16 then (if (gI s 80 8) = 1 then (mq_let (f_Parser_fail (1 : Int32) s) (fun (x489 : mS) => x489)) else (mq_let (f_Parser_closeLine s) (fun (x490 : mS) => x490))) else (mq_let (f_Parser_fail (1 : Int32) s) (fun (x491 : mS) => x491)))) else (if (gI s 80 3) = 16 then (if (gI s 80 8) = 1 then (mq_let (f_Parser_fail (1 : Int32) s) (fun (x492 : mS) => x492)) else (mq_let (f_Parser_closeLine s) (fun (x493 : mS) => x493))) else (mq_let (f_Parser_fail (1 : Int32) s) (fun (x494 : mS) => x494)))) else (mq_let (f_Parser_closeBracket s) (fun (x495 : mS) => x495))) else (if (gI s 80 3) = 12 then (if (gI s 80 8) = 0 then (mq_let (f_Parser_unwind (1 : Int32) s) (fun (x496 : mS) => (mq_let (gP x496 4) (fun (r497 : Nat) => (mq_let (f_Act_beginCondition r497 x496) (fun (x498 : mS) => sI x498 80 7 3)))))) else (if (gI s 80 3) = 16 then (if (gI s 80 8) = 1 then (mq_let (f_Parser_fail (1 : Int32) s) (fun (x499 : mS) => x499)) else (mq_let (f_Parser_closeLine s) (fun (x500 : mS) => x500))) else (mq_let (f_Parser_fail (1 : Int32) s) (fun (x501 : mS) => x501)))) else (if (gI s 80 3) = 16 then (if (gI s 80 8) = 1 then (mq_let (f_Parser_fail (1 : Int32) s) (fun (x502 : mS) => x502)) else (mq_let (f_Parser_closeLine s) (fun (x503 : mS) => x503))) else (mq_let (f_Parser_fail (1 : Int32) s) (fun (x504 : mS) => x504))))) else (mq_let (f_Parser_operate (3 : Int32) s) (fun (x505 : mS) => x505))) else (if (gI s 80 3) = 13 then (if x10 = 0 then (if (gI s 80 3) = 22 then (if x10 = 0 then (if (gI s 80 3) = 12 then (if (gI s 80 8) = 0 then (mq_let (f_Parser_unwind (1 : Int32) s) (fun (x506 : mS) => (mq_let (gP x506 4) (fun (r507 : Nat) => (mq_let (f_Act_beginCondition r507 x506) (fun (x508 : mS) => sI x508 80 7 3)))))) else (if (gI s 80 3) = 16 then (if (gI s 80 8) = 1 then (mq_let (f_Parser_fail (1 : Int32) s) (fun (x509 : mS) => x509)) else (mq_let (f_Parser_closeLine s) (fun (x510 : mS) => x510))) else (mq_let (f_Parser_fail (1 : Int32) s) (fun (x511 : mS) => x511)))) else (if (gI s 80 3) = 16 then (if (gI s 80 8) = 1 then (mq_let (f_Parser_fail (1 : Int32) s) (fun (x512 : mS) => x512)) else (mq_let (f_Parser_closeLine s) (fun (x513 : mS) => x513))) else (mq_let (f_Parser_fail (1 : Int32) s) (fun (x514 : mS) => x514)))) else (mq_let (f_Parser_closeBracket s) (fun (x515 : mS) => x515))) else (if (gI s 80 3) = 12 then (if (gI s 80 8) = 0 then (mq_let (f_Parser_unwind (1 : Int32) s) (fun (x516 : mS) => (mq_let (gP x516 4) (fun (r517 : Nat) => (mq_let (f_Act_beginCondition r517 x516) (fun (x518 : mS) => sI x518 80 7 3)))))) else (if (gI s 80 3) = 16 then (if (gI s 80 8) = 1 then (mq_let (f_Parser_fail (1 : Int32) s) (fun (x519 : mS) => x519)) else (mq_let (f_Parser_closeLine s) (fun (x520 : mS) => x520))) else (mq_let (f_Parser_fail (1 : Int32) s) (fun (x521 : mS) => x521)))) else (if (gI s 80 3) = 16 then (if (gI s 80 8) = 1 then (mq_let (f_Parser_fail (1 : Int32) s) (fun (x522 : mS) => x522)) else (mq_let (f_Parser_closeLine s) (fun (x523 : mS) => x523))) else (mq_let (f_Parser_fail (1 : Int32) s) (fun (x524 : mS) => x524))))) else (mq_let (f_Parser_operate (3 : Int32) s) (fun (x525 : mS) => x525))) else (if (gI s 80 3) = 22 then (if x10 = 0 then (if (gI s 80 3) = 12 then (if (gI s 80 8) = 0 then (mq_let (f_Parser_unwind (1 : Int32) s) (fun (x526 : mS) => (mq_let (gP x526 4) (fun (r527 : Nat) => (mq_let (f_Act_beginCondition r527 x526) (fun (x528 : mS) => sI x528 80 7 3)))))) else (if (gI s 80 3) = 16 then (if (gI s 80 8) = 1 then (mq_let (f_Parser_fail (1 : Int32) s) (fun (x529 : mS) => x529)) else (mq_let (f_Parser_closeLine s) (fun (x530 : mS) => x530))) else (mq_let (f_Parser_fail (1 : Int32) s) (fun (x531 : mS) => x531)))) else (if (gI s 80 3) = 16 then (if (gI s 80 8) = 1 then (mq_let (f_Parser_fail (1 : Int32) s) (fun (x532 : mS) => x532)) else (mq_let (f_Parser_closeLine s) (fun (x533 : mS) => x533))) else (mq_let (f_Parser_fail (1 : Int32) s) (fun (x534 : mS) => x534)))) else (mq_let (f_Parser_closeBracket s) (fun (x535 : mS) => x535))) else (if (gI s 80 3) = 12 then (if (gI s 80 8) = 0 then (mq_let (f_Parser_unwind (1 : Int32) s) (fun (x536 : mS) => (mq_let (gP x536 4) (fun (r537 : Nat) => (mq_let (f_Act_beginCondition r537 x536) (fun (x538 : mS) => sI x538 80 7 3)))))) else (if (gI s 80 3) = 16 then (if (gI s 80 8) = 1 then (mq_let (f_Parser_fail (1 : Int32) s) (fun (x539 : mS) => x539)) else (mq_let (f_Parser_closeLine s) (fun (x540 : mS) => x540))) else (mq_let (f_Parser_fail (1 : Int32) s) (fun (x541 : mS) => x541)))) else (if (gI s 80 3) = 16 then (if (gI s 80 8) = 1 then (mq_let (f_Parser_fail (1 : Int32) s) (fun (x542 : mS) => x542)) else (mq_let (f_Parser_closeLine s) (fun (x543 : mS) => x543))) else (mq_let (f_Parser_fail (1 : Int32) s) (fun (x544 : mS) => x544)))))))))) else (mq_let (if (gI s 80 3) = 20 then (2 : Int32) else (1 : Int32)) (fun (x545 : Int32) => (mq_let (f_Parser_operate x545 s) (fun (x546 : mS) => x546)))))))))
def ok_Parser_takeBehind  (s : mS) : Prop := (True ∧ mq_letP (if (gI s 80 8) = 2 then (1 : Int32) else (if (gI s 80 8) = 3 then (1 : Int32) else (0 : Int32))) (fun (x10 : Int32) => (if (gI s 80 3) < 17 then (if (gI s 80 3) < 23 then (if (gI s 80 3) = 14 then (if x10 = 0 then (if (gI s 80 3) = 22 then (if x10 = 0 then (if (gI s 80 3) = 12 then (if (gI s 80 8) = 0 then (ok_Parser_unwind (1 : Int32) s ∧ mq_letP (f_Parser_unwind (1 : Int32) s) (fun (x11 : mS) => (mq_A (gP x11 4) ∧ mq_letP (gP x11 4) (fun (r12 : Nat) => (ok_Act_beginCondition r12 x11 ∧ mq_letP (f_Act_beginCondition r12 x11) (fun (x13 : mS) => True)))))) else (if (gI s 80 3) = 16 then (if (gI s 80 8) = 1 then True else (ok_Parser_closeLine s ∧ mq_letP (f_Parser_closeLine s) (fun (x15 : mS) => True))) else True)) else (if (gI s 80 3) = 16 then (if (gI s 80 8) = 1 then True else (ok_Parser_closeLine s ∧ mq_letP (f_Parser_closeLine s) (fun (x18 : mS) => True))) else True)) else (ok_Parser_closeBracket s ∧ mq_letP (f_Parser_closeBracket s) (fun (x20 : mS) => True))) else (if (gI s 80 3) = 12 then (if (gI s 80 8) = 0 then (ok_Parser_unwind (1 : Int32) s ∧ mq_letP (f_Parser_unwind (1 : Int32) s) (fun (x21 : mS) => (mq_A (gP x21 4) ∧ mq_letP (gP x21 4) (fun (r22 : Nat) => (ok_Act_beginCondition r22 x21 ∧ mq_letP (f_Act_beginCondition r22 x21) (fun (x23 : mS) => True)))))) else (if (gI s 80 3) = 16 then (if (gI s 80 8) = 1 then True else (ok_Parser_closeLine s ∧ mq_letP (f_Parser_closeLine s) (fun (x25 : mS) => True))) else True)) else (if (gI s 80 3) = 16 then (if (gI s 80 8) = 1 then True else (ok_Parser_closeLine s ∧ mq_letP (f_Parser_closeLine s) (fun (x28 : mS) => True))) else True))) else (ok_Parser_operate (3 : Int32) s ∧ mq_letP (f_Parser_operate (3 : Int32) s) (fun (x30 : mS) => True))) else (if (gI s 80 3) = 13 then (if x10 = 0 then (if (gI s 80 3) = 22 then (if x10 = 0 then (if (gI s 80 3) = 12 then (if (gI s 80 8) = 0 then (ok_Parser_unwind (1 : Int32) s ∧ mq_letP (f_Parser_unwind (1 : Int32) s) (fun (x31 : mS) => (mq_A (gP x31 4) ∧ mq_letP (gP x31 4) (fun (r32 : Nat) => (ok_Act_beginCondition r32 x31 ∧ mq_letP (f_Act_beginCondition r32 x31) (fun (x33 : mS) => True)))))) else (if (gI s 80 3) = 16 then (if (gI s 80 8) = 1 then True else (ok_Parser_closeLine s ∧ mq_letP (f_Parser_closeLine s) (fun (x35 : mS) => True))) else True)) else (if (gI s 80 3) = 16 then (if (gI s 80 8) = 1 then True else (ok_Parser_closeLine s ∧ mq_letP (f_Parser_closeLine s) (fun (x38 : mS) => True))) else True)) else (ok_Parser_closeBracket s ∧ mq_letP (f_Parser_closeBracket s) (fun (x40 : mS) => True))) else (if (gI s 80 3) = 12 then (if (gI s 80 8) = 0 then (ok_Parser_unwind (1 : Int32) s ∧ mq_letP (f_Parser_unwind (1 : Int32) s) (fun (x41 : mS) => (mq_A (gP x41 4) ∧ mq_letP (gP x41 4) (fun (r42 : Nat) => (ok_Act_beginCondition r42 x41 ∧ mq_letP (f_Act_beginCondition r42 x41) (fun (x43 : mS) => True)))))) else (if (gI s 80 3) = 16 then (if (gI s 80 8) = 1 then True else (ok_Parser_closeLine s ∧ mq_letP (f_Parser_closeLine s) (fun (x45 : mS) => True))) else True)) else (if (gI s 80 3) = 16 then (if (gI s 80 8) = 1 then True else (ok_Parser_closeLine s ∧ mq_letP (f_Parser_closeLine s) (fun (x48 : mS) => True))) else True))) else (ok_Parser_operate (3 : Int32) s ∧ mq_letP (f_Parser_operate (3 : Int32) s) (fun (x50 : mS) => True))) else (if (gI s 80 3) = 22 then (if x10 = 0 then (if (gI s 80 3) = 12 then (if (gI s 80 8) = 0 then (ok_Parser_unwind (1 : Int32) s ∧ mq_letP (f_Parser_unwind (1 : Int32) s) (fun (x51 : mS) => (mq_A (gP x51 4) ∧ mq_letP (gP x51 4) (fun (r52 : Nat) => (ok_Act_beginCondition r52 x51 ∧ mq_letP (f_Act_beginCondition r52 x51) (fun (x53 : mS) => True)))))) else (if (gI s 80 3) = 16 then (if (gI s 80 8) = 1 then True else (ok_Parser_closeLine s ∧ mq_letP (f_Parser_closeLine s) (fun (x55 : mS) => True))) else True)) else (if (gI s 80 3) = 16 then (if (gI s 80 8) = 1 then True else (ok_Parser_closeLine s ∧ mq_letP (f_Parser_closeLine s) (fun (x58 : mS) => True))) else True)) else (ok_Parser_closeBracket s ∧ mq_letP (f_Parser_closeBracket s) (fun (x60 : mS) => True))) else (if (gI s 80 3) = 12 then (if (gI s 80 8) = 0 then (ok_Parser_unwind (1 : Int32) s ∧ mq_letP (f_Parser_unwind (1 : Int32) s) (fun (x61 : mS) => (mq_A (gP x61 4) ∧ mq_letP (gP x61 4) (fun (r62 : Nat) => (ok_Act_beginCondition r62 x61 ∧ mq_letP (f_Act_beginCondition r62 x61) (fun (x63 : mS) => True)))))) else (if (gI s 80 3) = 16 then (if (gI s 80 8) = 1 then True else (ok_Parser_closeLine s ∧ mq_letP (f_Parser_closeLine s) (fun (x65 : mS) => True))) else True)) else (if (gI s 80 3) = 16 then (if (gI s 80 8) = 1 then True else (ok_Parser_closeLine s ∧ mq_letP (f_Parser_closeLine s) (fun (x68 : mS) => True))) else True))))) else (if (25 : Int32) < (gI s 80 3) then (if (gI s 80 3) = 14 then (if x10 = 0 then (if (gI s 80 3) = 22 then (if x10 = 0 then (if (gI s 80 3) = 12 then (if (gI s 80 8) = 0 then (ok_Parser_unwind (1 : Int32) s ∧ mq_letP (f_Parser_unwind (1 : Int32) s) (fun (x70 : mS) => (mq_A (gP x70 4) ∧ mq_letP (gP x70 4) (fun (r71 : Nat) => (ok_Act_beginCondition r71 x70 ∧ mq_letP (f_Act_beginCondition r71 x70) (fun (x72 : mS) => True)))))) else (if (gI s 80 3) = 16 then (if (gI s 80 8) = 1 then True else (ok_Parser_closeLine s ∧ mq_letP (f_Parser_closeLine s) (fun (x74 : mS) => True))) else True)) else (if (gI s 80 3) = 16 then (if (gI s 80 8) = 1 then True else (ok_Parser_closeLine s ∧ mq_letP (f_Parser_closeLine s) (fun (x77 : mS) => True))) else True)) else (ok_Parser_closeBracket s ∧ mq_letP (f_Parser_closeBracket s) (fun (x79 : mS) => True))) else (if (gI s 80 3) = 12 then (if (gI s 80 8) = 0 then (ok_Parser_unwind (1 : Int32) s ∧ mq_letP (f_Parser_unwind (1 : Int32) s) (fun (x80 : mS) => (mq_A (gP x80 4) ∧ mq_letP (gP x80 4) (fun (r81 : Nat) => (ok_Act_beginCondition r81 x80 ∧ mq_letP (f_Act_beginCondition r81 x80) (fun (x82 : mS) => True)))))) else (if (gI s 80 3) = 16 then (if (gI s 80 8) = 1 then True else (ok_Parser_closeLine s ∧ mq_letP (f_Parser_closeLine s) (fun (x84 : mS) => True))) else True)) else (if (gI s 80 3) = 16 then (if (gI s 80 8) = 1 then True else (ok_Parser_closeLine s ∧ mq_letP (f_Parser_closeLine s) (fun (x87 : mS) => True))) else True))) else (ok_Parser_operate (3 : Int32) s ∧ mq_letP (f_Parser_operate (3 : Int32) s) (fun (x89 : mS) => True))) else (if (gI s 80 3) = 13 then (if x10 = 0 then (if (gI s 80 3) = 22 then (if x10 = 0 then (if (gI s 80 3) = 12 then (if (gI s 80 8) = 0 then (ok_Parser_unwind (1 : Int32) s ∧ mq_letP (f_Parser_unwind (1 : Int32) s) (fun (x90 : mS) => (mq_A (gP x90 4) ∧ mq_letP (gP x90 4) (fun (r91 : Nat) => (ok_Act_beginCondition r91 x90 ∧ mq_letP (f_Act_beginCondition r91 x90) (fun (x92 : mS) => True)))))) else (if (gI s 80 3) = 16 then (if (gI s 80 8) = 1 then True else (ok_Parser_closeLine s ∧ mq_letP (f_Parser_closeLine s) (fun (x94 : mS) => True))) else True)) else (if (gI s 80 3) = 16 then (if (gI s 80 8) = 1 then True else (ok_Parser_closeLine s ∧ mq_letP (f_Parser_closeLine s) (fun (x97 : mS) => True))) else True)) else (ok_Parser_closeBracket s ∧ mq_letP (f_Parser_closeBracket s) (fun (x99 : mS) => True))) else (if (gI s 80 3) = 12 then (if (gI s 80 8) = 0 then (ok_Parser_unwind (1 : Int32) s ∧ mq_letP (f_Parser_unwind (1 : Int32) s) (fun (x100 : mS) => (mq_A (gP x100 4) ∧ mq_letP (gP x100 4) (fun (r101 : Nat) => (ok_Act_beginCondition r101 x100 ∧ mq_letP (f_Act_beginCondition r101 x100) (fun (x102 : mS) => True)))))) else (if (gI s 80 3) = 16 then (if (gI s 80 8) = 1 then True else (ok_Parser_closeLine s ∧ mq_letP (f_Parser_closeLine s) (fun (x104 : mS) => True))) else True)) else (if (gI s 80 3) = 16 then (if (gI s 80 8) = 1 then True else (ok_Parser_closeLine s ∧ mq_letP (f_Parser_closeLine s) (fun (x107 : mS) => True))) else True))) else (ok_Parser_operate (3 : Int32) s ∧ mq_letP (f_Parser_operate (3 : Int32) s) (fun (x109 : mS) => True))) else (if (gI s 80 3) = 22 then (if x10 = 0 then (if (gI s 80 3) = 12 then (if (gI s 80 8) = 0 then (ok_Parser_unwind (1 : Int32) s ∧ mq_letP (f_Parser_unwind (1 : Int32) s) (fun (x110 : mS) => (mq_A (gP x110 4) ∧ mq_letP (gP x110 4) (fun (r111 : Nat) => (ok_Act_beginCondition r111 x110 ∧ mq_letP (f_Act_beginCondition r111 x110) (fun (x112 : mS) => True)))))) else (if (gI s 80 3) = 16 then (if (gI s 80 8) = 1 then True else (ok_Parser_closeLine s ∧ mq_letP (f_Parser_closeLine s) (fun (x114 : mS) => True))) else True)) else (if (gI s 80 3) = 16 then (if (gI s 80 8) = 1 then True else (ok_Parser_closeLine s ∧ mq_letP (f_Parser_closeLine s) (fun (x117 : mS) => True))) else True)) else (ok_Parser_closeBracket s ∧ mq_letP (f_Parser_closeBracket s) (fun (x119 : mS) => True))) else (if (gI s 80 3) = 12 then (if (gI s 80 8) = 0 then (ok_Parser_unwind (1 : Int32) s ∧ mq_letP (f_Parser_unwind (1 : Int32) s) (fun (x120 : mS) => (mq_A (gP x120 4) ∧ mq_letP (gP x120 4) (fun (r121 : Nat) => (ok_Act_beginCondition r121 x120 ∧ mq_letP (f_Act_beginCondition r121 x120) (fun (x122 : mS) => True)))))) else (if (gI s 80 3) = 16 then (if (gI s 80 8) = 1 then True else (ok_Parser_closeLine s ∧ mq_letP (f_Parser_closeLine s) (fun (x124 : mS) => True))) else True)) else (if (gI s 80 3) = 16 then (if (gI s 80 8) = 1 then True else (ok_Parser_closeLine s ∧ mq_letP (f_Parser_closeLine s) (fun (x127 : mS) => True))) else True))))) else (if (gI s 80 8) = 1 then (ok_Parser_operate (1 : Int32) s ∧ mq_letP (f_Parser_operate (1 : Int32) s) (fun (x129 : mS) => True)) else (if (gI s 80 3) = 14 then (if x10 = 0 then (if (gI s 80 3) = 22 then (if x10 = 0 then (if (gI s 80 3) = 12 then (if (gI s 80 8) = 0 then (ok_Parser_unwind (1 : Int32) s ∧ mq_letP (f_Parser_unwind (1 : Int32) s) (fun (x130 : mS) => (mq_A (gP x130 4) ∧ mq_letP (gP x130 4) (fun (r131 : Nat) => (ok_Act_beginCondition r131 x130 ∧ mq_letP (f_Act_beginCondition r131 x130) (fun (x132 : mS) => True)))))) else (if (gI s 80 3) = 16 then (if (gI s 80 8) = 1 then True else (ok_Parser_closeLine s ∧ mq_letP (f_Parser_closeLine s) (fun (x134 : mS) => True))) else True)) else (if (gI s 80 3) = 16 then (if (gI s 80 8) = 1 then True else (ok_Parser_closeLine s ∧ mq_letP (f_Parser_closeLine s) (fun (x137 : mS) => True))) else True)) else (ok_Parser_closeBracket s ∧ mq_letP (f_Parser_closeBracket s) (fun (x139 : mS) => True))) else (if (gI s 80 3) = 12 then (if (gI s 80 8) = 0 then (ok_Parser_unwind (1 : Int32) s ∧ mq_letP (f_Parser_unwind (1 : Int32) s) (fun (x140 : mS) => (mq_A (gP x140 4) ∧ mq_letP (gP x140 4) (fun (r141 : Nat) => (ok_Act_beginCondition r141 x140 ∧ mq_letP (f_Act_beginCondition r141 x140) (fun (x142 : mS) => True)))))) else (if (gI s 80 3) = 16 then (if (gI s 80 8) = 1 then True else (ok_Parser_closeLine s ∧ mq_letP (f_Parser_closeLine s) (fun (x144 : mS) => True))) else True)) else (if (gI s 80 3) = 16 then (if (gI s 80 8) = 1 then True else (ok_Parser_closeLine s ∧ mq_letP (f_Parser_closeLine s) (fun (x147 : mS) => True))) else True))) else (ok_Parser_operate (3 : Int32) s ∧ mq_letP (f_Parser_operate (3 : Int32) s) (fun (x149 : mS) => True))) else (if (gI s 80 3) = 13 then (if x10 = 0 then (if (gI s 80 3) = 22 then (if x10 = 0 then (if (gI s 80 3) = 12 then (if (gI s 80 8) = 0 then (ok_Parser_unwind (1 : Int32) s ∧ mq_letP (f_Parser_unwind (1 : Int32) s) (fun (x150 : mS) => (mq_A (gP x150 4) ∧ mq_letP (gP x150 4) (fun (r151 : Nat) => (ok_Act_beginCondition r151 x150 ∧ mq_letP (f_Act_beginCondition r151 x150) (fun (x152 : mS) => True)))))) else (if (gI s 80 3) = 16 then (if (gI s 80 8) = 1 then True else (ok_Parser_closeLine s ∧ mq_letP (f_Parser_closeLine s) (fun (x154 : mS) => True))) else True)) else (if (gI s 80 3) = 16 then (if (gI s 80 8) = 1 then True else (ok_Parser_closeLine s ∧ mq_letP (f_Parser_closeLine s) (fun (x157 : mS) => True))) else True)) else (ok_Parser_closeBracket s ∧ mq_letP (f_Parser_closeBracket s) (fun (x159 : mS) => True))) else (if (gI s 80 3) = 12 then (if (gI s 80 8) = 0 then (ok_Parser_unwind (1 : Int32) s ∧ mq_letP (f_Parser_unwind (1 : Int32) s) (fun (x160 : mS) => (mq_A (gP x160 4) ∧ mq_letP (gP x160 4) (fun (r161 : Nat) => (ok_Act_beginCondition r161 x160 ∧ mq_letP (f_Act_beginCondition r161 x160) (fun (x162 : mS) => True)))))) else (if (gI s 80 3) = 16 then (if (gI s 80 8) = 1 then True else (ok_Parser_closeLine s ∧ mq_letP (f_Parser_closeLine s) (fun (x164 : mS) => True))) else True)) else (if (gI s 80 3) = 16 then (if (gI s 80 8) = 1 then True else (ok_Parser_closeLine s ∧ mq_letP (f_Parser_closeLine s) (fun (x167 : mS) => True))) else True))) else (ok_Parser_operate (3 : Int32) s ∧ mq_letP (f_Parser_operate (3 : Int32) s) (fun (x169 : mS) => True))) else (if (gI s 80 3) = 22 then (if x10 = 0 then (if (gI s 80 3) = 12 then (if (gI s 80 8) = 0 then (ok_Parser_unwind (1 : Int32) s ∧ mq_letP (f_Parser_unwind (1 : Int32) s) (fun (x170 : mS) => (mq_A (gP x170 4) ∧ mq_letP (gP x170 4) (fun (r171 : Nat) => (ok_Act_beginCondition r171 x170 ∧ mq_letP (f_Act_beginCondition r171 x170) (fun (x172 : mS) => True)))))) else (if (gI s 80 3) = 16 then (if (gI s 80 8) = 1 then True else (ok_Parser_closeLine s ∧ mq_letP (f_Parser_closeLine s) (fun (x174 : mS) => True))) else True)) else (if (gI s 80 3) = 16 then (if (gI s 80 8) = 1 then True else (ok_Parser_closeLine s ∧ mq_letP (f_Parser_closeLine s) (fun (x177 : mS) => True))) else True)) else (ok_Parser_closeBracket s ∧ mq_letP (f_Parser_closeBracket s) (fun (x179 : mS) => True))) else (if (gI s 80 3) = 12 then (if (gI s 80 8) = 0 then (ok_Parser_unwind (1 : Int32) s ∧ mq_letP (f_Parser_unwind (1 : Int32) s) (fun (x180 : mS) => (mq_A (gP x180 4) ∧ mq_letP (gP x180 4) (fun (r181 : Nat) => (ok_Act_beginCondition r181 x180 ∧ mq_letP (f_Act_beginCondition r181 x180) (fun (x182 : mS) => True)))))) else (if (gI s 80 3) = 16 then (if (gI s 80 8) = 1 then True else (ok_Parser_closeLine s ∧ mq_letP (f_Parser_closeLine s) (fun (x184 : mS) => True))) else True)) else (if (gI s 80 3) = 16 then (if (gI s 80 8) = 1 then True else (ok_Parser_closeLine s ∧ mq_letP (f_Parser_closeLine s) (fun (x187 : mS) => True))) else True)))))))) else (if (20 : Int32) < (gI s 80 3) then (if (gI s 80 3) < 23 then (if (gI s 80 3) = 14 then (if x10 = 0 then (if (gI s 80 3) = 22 then (if x10 = 0 then (if (gI s 80 3) = 12 then (if (gI s 80 8) = 0 then (ok_Parser_unwind (1 : Int32) s ∧ mq_letP (f_Parser_unwind (1 : Int32) s) (fun (x189 : mS) => (mq_A (gP x189 4) ∧ mq_letP (gP x189 4) (fun (r190 : Nat) => (ok_Act_beginCondition r190 x189 ∧ mq_letP (f_Act_beginCondition r190 x189) (fun (x191 : mS) => True)))))) else (if (gI s 80 3) = 16 then (if (gI s 80 8) = 1 then True else (ok_Parser_closeLine s ∧ mq_letP (f_Parser_closeLine s) (fun (x193 : mS) => True))) else True)) else (if (gI s 80 3) = 16 then (if (gI s 80 8) = 1 then True else (ok_Parser_closeLine s ∧ mq_letP (f_Parser_closeLine s) (fun (x196 : mS) => True))) else True)) else (ok_Parser_closeBracket s ∧ mq_letP (f_Parser_closeBracket s) (fun (x198 : mS) => True))) else (if (gI s 80 3) = 12 then (if (gI s 80 8) = 0 then (ok_Parser_unwind (1 : Int32) s ∧ mq_letP (f_Parser_unwind (1 : Int32) s) (fun (x199 : mS) => (mq_A (gP x199 4) ∧ mq_letP (gP x199 4) (fun (r200 : Nat) => (ok_Act_beginCondition r200 x199 ∧ mq_letP (f_Act_beginCondition r200 x199) (fun (x201 : mS) => True)))))) else (if (gI s 80 3) = 16 then (if (gI s 80 8) = 1 then True else (ok_Parser_closeLine s ∧ mq_letP (f_Parser_closeLine s) (fun (x203 : mS) => True))) else True)) else (if (gI s 80 3) = 16 then (if (gI s 80 8) = 1 then True else (ok_Parser_closeLine s ∧ mq_letP (f_Parser_closeLine s) (fun (x206 : mS) => True))) else True))) else (ok_Parser_operate (3 : Int32) s ∧ mq_letP (f_Parser_operate (3 : Int32) s) (fun (x208 : mS) => True))) else (if (gI s 80 3) = 13 then (if x10 = 0 then (if (gI s 80 3) = 22 then (if x10 = 0 then (if (gI s 80 3) = 12 then (if (gI s 80 8) = 0 then (ok_Parser_unwind (1 : Int32) s ∧ mq_letP (f_Parser_unwind (1 : Int32) s) (fun (x209 : mS) => (mq_A (gP x209 4) ∧ mq_letP (gP x209 4) (fun (r210 : Nat) => (ok_Act_beginCondition r210 x209 ∧ mq_letP (f_Act_beginCondition r210 x209) (fun (x211 : mS) => True)))))) else (if (gI s 80 3) = 16 then (if (gI s 80 8) = 1 then True else (ok_Parser_closeLine s ∧ mq_letP (f_Parser_closeLine s) (fun (x213 : mS) => True))) else True)) else (if (gI s 80 3) = 16 then (if (gI s 80 8) = 1 then True else (ok_Parser_closeLine s ∧ mq_letP (f_Parser_closeLine s) (fun (x216 : mS) => True))) else True)) else (ok_Parser_closeBracket s ∧ mq_letP (f_Parser_closeBracket s) (fun (x218 : mS) => True))) else (if (gI s 80 3) = 12 then (if (gI s 80 8) = 0 then (ok_Parser_unwind (1 : Int32) s ∧ mq_letP (f_Parser_unwind (1 : Int32) s) (fun (x219 : mS) => (mq_A (gP x219 4) ∧ mq_letP (gP x219 4) (fun (r220 : Nat) => (ok_Act_beginCondition r220 x219 ∧ mq_letP (f_Act_beginCondition r220 x219) (fun (x221 : mS) => True)))))) else (if (gI s 80 3) = 16 then (if (gI s 80 8) = 1 then True else (ok_Parser_closeLine s ∧ mq_letP (f_Parser_closeLine s) (fun (x223 : mS) => True))) else True)) else (if (gI s 80 3) = 16 then (if (gI s 80 8) = 1 then True else (ok_Parser_closeLine s ∧ mq_letP (f_Parser_closeLine s) (fun (x226 : mS) => True))) else True))) else (ok_Parser_operate (3 : Int32) s ∧ mq_letP (f_Parser_operate (3 : Int32) s) (fun (x228 : mS) => True))) else (if (gI s 80 3) = 22 then (if x10 = 0 then (if (gI s 80 3) = 12 then (if (gI s 80 8) = 0 then (ok_Parser_unwind (1 : Int32) s ∧ mq_letP (f_Parser_unwind (1 : Int32) s) (fun (x229 : mS) => (mq_A (gP x229 4) ∧ mq_letP (gP x229 4) (fun (r230 : Nat) => (ok_Act_beginCondition r230 x229 ∧ mq_letP (f_Act_beginCondition r230 x229) (fun (x231 : mS) => True)))))) else (if (gI s 80 3) = 16 then (if (gI s 80 8) = 1 then True else (ok_Parser_closeLine s ∧ mq_letP (f_Parser_closeLine s) (fun (x233 : mS) => True))) else True)) else (if (gI s 80 3) = 16 then (if (gI s 80 8) = 1 then True else (ok_Parser_closeLine s ∧ mq_letP (f_Parser_closeLine s) (fun (x236 : mS) => True))) else True)) else (ok_Parser_closeBracket s ∧ mq_letP (f_Parser_closeBracket s) (fun (x238 : mS) => True))) else (if (gI s 80 3) = 12 then (if (gI s 80 8) = 0 then (ok_Parser_unwind (1 : Int32) s ∧ mq_letP (f_Parser_unwind (1 : Int32) s) (fun (x239 : mS) => (mq_A (gP x239 4) ∧ mq_letP (gP x239 4) (fun (r240 : Nat) => (ok_Act_beginCondition r240 x239 ∧ mq_letP (f_Act_beginCondition r240 x239) (fun (x241 : mS) => True)))))) else (if (gI s 80 3) = 16 then (if (gI s 80 8) = 1 then True else (ok_Parser_closeLine s ∧ mq_letP (f_Parser_closeLine s) (fun (x243 : mS) => True))) else True)) else (if (gI s 80 3) = 16 then (if (gI s 80 8) = 1 then True else (ok_Parser_closeLine s ∧ mq_letP (f_Parser_closeLine s) (fun (x246 : mS) => True))) else True))))) else (if (25 : Int32) < (gI s 80 3) then (if (gI s 80 3) = 14 then (if x10 = 0 then (if (gI s 80 3) = 22 then (if x10 = 0 then (if (gI s 80 3) = 12 then (if (gI s 80 8) = 0 then (ok_Parser_unwind (1 : Int32) s ∧ mq_letP (f_Parser_unwind (1 : Int32) s) (fun (x248 : mS) => (mq_A (gP x248 4) ∧ mq_letP (gP x248 4) (fun (r249 : Nat) => (ok_Act_beginCondition r249 x248 ∧ mq_letP (f_Act_beginCondition r249 x248) (fun (x250 : mS) => True)))))) else (if (gI s 80 3) = 16 then (if (gI s 80 8) = 1 then True else (ok_Parser_closeLine s ∧ mq_letP (f_Parser_closeLine s) (fun (x252 : mS) => True))) else True)) else (if (gI s 80 3) = 16 then (if (gI s 80 8) = 1 then True else (ok_Parser_closeLine s ∧ mq_letP (f_Parser_closeLine s) (fun (x255 : mS) => True))) else True)) else (ok_Parser_closeBracket s ∧ mq_letP (f_Parser_closeBracket s) (fun (x257 : mS) => True))) else (if (gI s 80 3) = 12 then (if (gI s 80 8) = 0 then (ok_Parser_unwind (1 : Int32) s ∧ mq_letP (f_Parser_unwind (1 : Int32) s) (fun (x258 : mS) => (mq_A (gP x258 4) ∧ mq_letP (gP x258 4) (fun (r259 : Nat) => (ok_Act_beginCondition r259 x258 ∧ mq_letP (f_Act_beginCondition r259 x258) (fun (x260 : mS) => True)))))) else (if (gI s 80 3) = 16 then (if (gI s 80 8) = 1 then True else (ok_Parser_closeLine s ∧ mq_letP (f_Parser_closeLine s) (fun (x262 : mS) => True))) else True)) else (if (gI s 80 3) = 16 then (if (gI s 80 8) = 1 then True else (ok_Parser_closeLine s ∧ mq_letP (f_Parser_closeLine s) (fun (x265 : mS) => True))) else True))) else (ok_Parser_operate (3 : Int32) s ∧ mq_letP (f_Parser_operate (3 : Int32) s) (fun (x267 : mS) => True))) else (if (gI s 80 3) = 13 then (if x10 = 0 then (if (gI s 80 3) = 22 then (if x10 = 0 then (if (gI s 80 3) = 12 then (if (gI s 80 8) = 0 then (ok_Parser_unwind (1 : Int32) s ∧ mq_letP (f_Parser_unwind (1 : Int32) s) (fun (x268 : mS) => (mq_A (gP x268 4) ∧ mq_letP (gP x268 4) (fun (r269 : Nat) => (ok_Act_beginCondition r269 x268 ∧ mq_letP (f_Act_beginCondition r269 x268) (fun (x270 : mS) => True)))))) else (if (gI s 80 3) = 16 then (if (gI s 80 8) = 1 then True else (ok_Parser_closeLine s ∧ mq_letP (f_Parser_closeLine s) (fun (x272 : mS) => True))) else True)) else (if (gI s 80 3) = 16 then (if (gI s 80 8) = 1 then True else (ok_Parser_closeLine s ∧ mq_letP (f_Parser_closeLine s) (fun (x275 : mS) => True))) else True)) else (ok_Parser_closeBracket s ∧ mq_letP (f_Parser_closeBracket s) (fun (x277 : mS) => True))) else (if (gI s 80 3) = 12 then (if (gI s 80 8) = 0 then (ok_Parser_unwind (1 : Int32) s ∧ mq_letP (f_Parser_unwind (1 : Int32) s) (fun (x278 : mS) => (mq_A (gP x278 4) ∧ mq_letP (gP x278 4) (fun (r279 : Nat) => (ok_Act_beginCondition r279 x278 ∧ mq_letP (f_Act_beginCondition r279 x278) (fun (x280 : mS) => True)))))) else (if (gI s 80 3) = 16 then (if (gI s 80 8) = 1 then True else (ok_Parser_closeLine s ∧ mq_letP (f_Parser_closeLine s) (fun (x282 : mS) => True))) else True)) else (if (gI s 80 3) = 16 then (if (gI s 80 8) = 1 then True else (ok_Parser_closeLine s ∧ mq_letP (f_Parser_closeLine s) (fun (x285 : mS) => True))) else True))) else (ok_Parser_operate (3 : Int32) s ∧ mq_letP (f_Parser_operate (3 : Int32) s) (fun (x287 : mS) => True))) else (if (gI s 80 3) = 22 then (if x10 = 0 then (if (gI s 80 3) = 12 then (if (gI s 80 8) = 0 then (ok_Parser_unwind (1 : Int32) s ∧ mq_letP (f_Parser_unwind (1 : Int32) s) (fun (x288 : mS) => (mq_A (gP x288 4) ∧ mq_letP (gP x288 4) (fun (r289 : Nat) => (ok_Act_beginCondition r289 x288 ∧ mq_letP (f_Act_beginCondition r289 x288) (fun (x290 : mS) => True)))))) else (if (gI s 80 3) = 16 then (if (gI s 80 8) = 1 then True else (ok_Parser_closeLine s ∧ mq_letP (f_Parser_closeLine s) (fun (x292 : mS) => True))) else True)) else (if (gI s 80 3) = 16 then (if (gI s 80 8) = 1 then True else (ok_Parser_closeLine s ∧ mq_letP (f_Parser_closeLine s) (fun (x295 : mS) => True))) else True)) else (ok_Parser_closeBracket s ∧ mq_letP (f_Parser_closeBracket s) (fun (x297 : mS) => True))) else (if (gI s 80 3) = 12 then (if (gI s 80 8) = 0 then (ok_Parser_unwind (1 : Int32) s ∧ mq_letP (f_Parser_unwind (1 : Int32) s) (fun (x298 : mS) => (mq_A (gP x298 4) ∧ mq_letP (gP x298 4) (fun (r299 : Nat) => (ok_Act_beginCondition r299 x298 ∧ mq_letP (f_Act_beginCondition r299 x298) (fun (x300 : mS) => True)))))) else (if (gI s 80 3) = 16 then (if (gI s 80 8) = 1 then True else (ok_Parser_closeLine s ∧ mq_letP (f_Parser_closeLine s) (fun (x302 : mS) => True))) else True)) else (if (gI s 80 3) = 16 then (if (gI s 80 8) = 1 then True else (ok_Parser_closeLine s ∧ mq_letP (f_Parser_closeLine s) (fun (x305 : mS) => True))) else True))))) else (if (gI s 80 8) = 1 then (ok_Parser_operate (1 : Int32) s ∧ mq_letP (f_Parser_operate (1 : Int32) s) (fun (x307 : mS) => True)) else (if (gI s 80 3) = 14 then (if x10 = 0 then (if (gI s 80 3) = 22 then (if x10 = 0 then (if (gI s 80 3) = 12 then (if (gI s 80 8) = 0 then (ok_Parser_unwind (1 : Int32) s ∧ mq_letP (f_Parser_unwind (1 : Int32) s) (fun (x308 : mS) => (mq_A (gP x308 4) ∧ mq_letP (gP x308 4) (fun (r309 : Nat) => (ok_Act_beginCondition r309 x308 ∧ mq_letP (f_Act_beginCondition r309 x308) (fun (x310 : mS) => True)))))) else (if (gI s 80 3) = 16 then (if (gI s 80 8) = 1 then True else (ok_Parser_closeLine s ∧ mq_letP (f_Parser_closeLine s) (fun (x312 : mS) => True))) else True)) else (if (gI s 80 3) = 16 then (if (gI s 80 8) = 1 then True else (ok_Parser_closeLine s ∧ mq_letP (f_Parser_closeLine s) (fun (x315 : mS) => True))) else True)) else (ok_Parser_closeBracket s ∧ mq_letP (f_Parser_closeBracket s) (fun (x317 : mS) => True))) else (if (gI s 80 3) = 12 then (if (gI s 80 8) = 0 then (ok_Parser_unwind (1 : Int32) s ∧ mq_letP (f_Parser_unwind (1 : Int32) s) (fun (x318 : mS) => (mq_A (gP x318 4) ∧ mq_letP (gP x318 4) (fun (r319 : Nat) => (ok_Act_beginCondition r319 x318 ∧ mq_letP (f_Act_beginCondition r319 x318) (fun (x320 : mS) => True)))))) else (if (gI s 80 3) = 16 then (if (gI s 80 8) = 1 then True else (ok_Parser_closeLine s ∧ mq_letP (f_Parser_closeLine s) (fun (x322 : mS) => True))) else True)) else (if (gI s 80 3) = 16 then (if (gI s 80 8) = 1 then True else (ok_Parser_closeLine s ∧ mq_letP (f_Parser_closeLine s) (fun (x325 : mS) => True))) else True))) else (ok_Parser_operate (3 : Int32) s ∧ mq_letP (f_Parser_operate (3 : Int32) s) (fun (x327 : mS) => True))) else (if (gI s 80 3) = 13 then (if x10 = 0 then (if (gI s 80 3) = 22 then (if x10 = 0 then (if (gI s 80 3) = 12 then (if (gI s 80 8) = 0 then (ok_Parser_unwind (1 : Int32) s ∧ mq_letP (f_Parser_unwind (1 : Int32) s) (fun (x328 : mS) => (mq_A (gP x328 4) ∧ mq_letP (gP x328 4) (fun (r329 : Nat) => (ok_Act_beginCondition r329 x328 ∧ mq_letP (f_Act_beginCondition r329 x328) (fun (x330 : mS) => True)))))) else (if (gI s 80 3) = 16 then (if (gI s 80 8) = 1 then True else (ok_Parser_closeLine s ∧ mq_letP (f_Parser_closeLine s) (fun (x332 : mS) => True))) else True)) else (if (gI s 80 3) = 16 then (if (gI s 80 8) = 1 then True else (ok_Parser_closeLine s ∧ mq_letP (f_Parser_closeLine s) (fun (x335 : mS) => True))) else True)) else (ok_Parser_closeBracket s ∧ mq_letP (f_Parser_closeBracket s) (fun (x337 : mS) => True))) else (if (gI s 80 3) = 12 then (if (gI s 80 8) = 0 then (ok_Parser_unwind (1 : Int32) s ∧ mq_letP (f_Parser_unwind (1 : Int32) s) (fun (x338 : mS) => (mq_A (gP x338 4) ∧ mq_letP (gP x338 4) (fun (r339 : Nat) => (ok_Act_beginCondition r339 x338 ∧ mq_letP (f_Act_beginCondition r339 x338) (fun (x340 : mS) => True)))))) else (if (gI s 80 3) = 16 then (if (gI s 80 8) = 1 then True else (ok_Parser_closeLine s ∧ mq_letP (f_Parser_closeLine s) (fun (x342 : mS) => True))) else True)) else (if (gI s 80 3) = 16 then (if (gI s 80 8) = 1 then True else (ok_Parser_closeLine s ∧ mq_letP (f_Parser_closeLine s) (fun (x345 : mS) => True))) else True))) else (ok_Parser_operate (3 : Int32) s ∧ mq_letP (f_Parser_operate (3 : Int32) s) (fun (x347 : mS) => True))) else (if (gI s 80 3) = 22 then (if x10 = 0 then (if (gI s 80 3) = 12 then (if (gI s 80 8) = 0 then (ok_Parser_unwind (1 : Int32) s ∧ mq_letP (f_Parser_unwind (1 : Int32) s) (fun (x348 : mS) => (mq_A (gP x348 4) ∧ mq_letP (gP x348 4) (fun (r349 : Nat) => (ok_Act_beginCondition r349 x348 ∧ mq_letP (f_Act_beginCondition r349 x348) (fun (x350 : mS) => True)))))) else (if (gI s 80 3) = 16 then (if (gI s 80 8) = 1 then True else (ok_Parser_closeLine s ∧ mq_letP (f_Parser_closeLine s) (fun (x352 : mS) => True))) else True)) else (if (gI s 80 3) = 16 then (if (gI s 80 8) = 1 then True else (ok_Parser_closeLine s ∧ mq_letP (f_Parser_closeLine s) (fun (x355 : mS) => True))) else True)) else (ok_Parser_closeBracket s ∧ mq_letP (f_Parser_closeBracket s) (fun (x357 : mS) => True))) else (if (gI s 80 3) = 12 then (if (gI s 80 8) = 0 then (ok_Parser_unwind (1 : Int32) s ∧ mq_letP (f_Parser_unwind (1 : Int32) s) (fun (x358 : mS) => (mq_A (gP x358 4) ∧ mq_letP (gP x358 4) (fun (r359 : Nat) => (ok_Act_beginCondition r359 x358 ∧ mq_letP (f_Act_beginCondition r359 x358) (fun (x360 : mS) => True)))))) else (if (gI s 80 3) = 16 then (if (gI s 80 8) = 1 then True else (ok_Parser_closeLine s ∧ mq_letP (f_Parser_closeLine s) (fun (x362 : mS) => True))) else True)) else (if (gI s 80 3) = 16 then (if (gI s 80 8) = 1 then True else (ok_Parser_closeLine s ∧ mq_letP (f_Parser_closeLine s) (fun (x365 : mS) => True))) else True)))))))) else (if (gI s 80 8) = 3 then (if (gI s 80 3) < 23 then (if (gI s 80 3) = 14 then (if x10 = 0 then (if (gI s 80 3) = 22 then (if x10 = 0 then (if (gI s 80 3) = 12 then (if (gI s 80 8) = 0 then (ok_Parser_unwind (1 : Int32) s ∧ mq_letP (f_Parser_unwind (1 : Int32) s) (fun (x367 : mS) => (mq_A (gP x367 4) ∧ mq_letP (gP x367 4) (fun (r368 : Nat) => (ok_Act_beginCondition r368 x367 ∧ mq_letP (f_Act_beginCondition r368 x367) (fun (x369 : mS) => True)))))) else (if (gI s 80 3) = 16 then (if (gI s 80 8) = 1 then True else (ok_Parser_closeLine s ∧ mq_letP (f_Parser_closeLine s) (fun (x371 : mS) => True))) else True)) else (if (gI s 80 3) = 16 then (if (gI s 80 8) = 1 then True else (ok_Parser_closeLine s ∧ mq_letP (f_Parser_closeLine s) (fun (x374 : mS) => True))) else True)) else (ok_Parser_closeBracket s ∧ mq_letP (f_Parser_closeBracket s) (fun (x376 : mS) => True))) else (if (gI s 80 3) = 12 then (if (gI s 80 8) = 0 then (ok_Parser_unwind (1 : Int32) s ∧ mq_letP (f_Parser_unwind (1 : Int32) s) (fun (x377 : mS) => (mq_A (gP x377 4) ∧ mq_letP (gP x377 4) (fun (r378 : Nat) => (ok_Act_beginCondition r378 x377 ∧ mq_letP (f_Act_beginCondition r378 x377) (fun (x379 : mS) => True)))))) else (if (gI s 80 3) = 16 then (if (gI s 80 8) = 1 then True else (ok_Parser_closeLine s ∧ mq_letP (f_Parser_closeLine s) (fun (x381 : mS) => True))) else True)) else (if (gI s 80 3) = 16 then (if (gI s 80 8) = 1 then True else (ok_Parser_closeLine s ∧ mq_letP (f_Parser_closeLine s) (fun (x384 : mS) => True))) else True))) else (ok_Parser_operate (3 : Int32) s ∧ mq_letP (f_Parser_operate (3 : Int32) s) (fun (x386 : mS) => True))) else (if (gI s 80 3) = 13 then (if x10 = 0 then (if (gI s 80 3) = 22 then (if x10 = 0 then (if (gI s 80 3) = 12 then (if (gI s 80 8) = 0 then (ok_Parser_unwind (1 : Int32) s ∧ mq_letP (f_Parser_unwind (1 : Int32) s) (fun (x387 : mS) => (mq_A (gP x387 4) ∧ mq_letP (gP x387 4) (fun (r388 : Nat) => (ok_Act_beginCondition r388 x387 ∧ mq_letP (f_Act_beginCondition r388 x387) (fun (x389 : mS) => True)))))) else (if (gI s 80 3) = 16 then (if (gI s 80 8) = 1 then True else (ok_Parser_closeLine s ∧ mq_letP (f_Parser_closeLine s) (fun (x391 : mS) => True))) else True)) else (if (gI s 80 3) = 16 then (if (gI s 80 8) = 1 then True else (ok_Parser_closeLine s ∧ mq_letP (f_Parser_closeLine s) (fun (x394 : mS) => True))) else True)) else (ok_Parser_closeBracket s ∧ mq_letP (f_Parser_closeBracket s) (fun (x396 : mS) => True))) else (if (gI s 80 3) = 12 then (if (gI s 80 8) = 0 then (ok_Parser_unwind (1 : Int32) s ∧ mq_letP (f_Parser_unwind (1 : Int32) s) (fun (x397 : mS) => (mq_A (gP x397 4) ∧ mq_letP (gP x397 4) (fun (r398 : Nat) => (ok_Act_beginCondition r398 x397 ∧ mq_letP (f_Act_beginCondition r398 x397) (fun (x399 : mS) => True)))))) else (if (gI s 80 3) = 16 then (if (gI s 80 8) = 1 then True else (ok_Parser_closeLine s ∧ mq_letP (f_Parser_closeLine s) (fun (x401 : mS) => True))) else True)) else (if (gI s 80 3) = 16 then (if (gI s 80 8) = 1 then True else (ok_Parser_closeLine s ∧ mq_letP (f_Parser_closeLine s) (fun (x404 : mS) => True))) else True))) else (ok_Parser_operate (3 : Int32) s ∧ mq_letP (f_Parser_operate (3 : Int32) s) (fun (x406 : mS) => True))) else (if (gI s 80 3) = 22 then (if x10 = 0 then (if (gI s 80 3) = 12 then (if (gI s 80 8) = 0 then (ok_Parser_unwind (1 : Int32) s ∧ mq_letP (f_Parser_unwind (1 : Int32) s) (fun (x407 : mS) => (mq_A (gP x407 4) ∧ mq_letP (gP x407 4) (fun (r408 : Nat) => (ok_Act_beginCondition r408 x407 ∧ mq_letP (f_Act_beginCondition r408 x407) (fun (x409 : mS) => True)))))) else (if (gI s 80 3) = 16 then (if (gI s 80 8) = 1 then True else (ok_Parser_closeLine s ∧ mq_letP (f_Parser_closeLine s) (fun (x411 : mS) => True))) else True)) else (if (gI s 80 3) = 16 then (if (gI s 80 8) = 1 then True else (ok_Parser_closeLine s ∧ mq_letP (f_Parser_closeLine s) (fun (x414 : mS) => True))) else True)) else (ok_Parser_closeBracket s ∧ mq_letP (f_Parser_closeBracket s) (fun (x416 : mS) => True))) else (if (gI s 80 3) = 12 then (if (gI s 80 8) = 0 then (ok_Parser_unwind (1 : Int32) s ∧ mq_letP (f_Parser_unwind (1 : Int32) s) (fun (x417 : mS) => (mq_A (gP x417 4) ∧ mq_letP (gP x417 4) (fun (r418 : Nat) => (ok_Act_beginCondition r418 x417 ∧ mq_letP (f_Act_beginCondition r418 x417) (fun (x419 : mS) => True)))))) else (if (gI s 80 3) = 16 then (if (gI s 80 8) = 1 then True else (ok_Parser_closeLine s ∧ mq_letP (f_Parser_closeLine s) (fun (x421 : mS) => True))) else True)) else (if (gI s 80 3) = 16 then (if (gI s 80 8) = 1 then True else (ok_Parser_closeLine s ∧ mq_letP (f_Parser_closeLine s) (fun (x424 : mS) => True))) else True))))) else (if (25 : Int32) < (gI s 80 3) then (if (gI s 80 3) = 14 then (if x10 = 0 then (if (gI s 80 3) = 22 then (if x10 = 0 then (if (gI s 80 3) = 12 then (if (gI s 80 8) = 0 then (ok_Parser_unwind (1 : Int32) s ∧ mq_letP (f_Parser_unwind (1 : Int32) s) (fun (x426 : mS) => (mq_A (gP x426 4) ∧ mq_letP (gP x426 4) (fun (r427 : Nat) => (ok_Act_beginCondition r427 x426 ∧ mq_letP (f_Act_beginCondition r427 x426) (fun (x428 : mS) => True)))))) else (if (gI s 80 3) = 16 then (if (gI s 80 8) = 1 then True else (ok_Parser_closeLine s ∧ mq_letP (f_Parser_closeLine s) (fun (x430 : mS) => True))) else True)) else (if (gI s 80 3) = 16 then (if (gI s 80 8) = 1 then True else (ok_Parser_closeLine s ∧ mq_letP (f_Parser_closeLine s) (fun (x433 : mS) => True))) else True)) else (ok_Parser_closeBracket s ∧ mq_letP (f_Parser_closeBracket s) (fun (x435 : mS) => True))) else (if (gI s 80 3) = 12 then (if (gI s 80 8) = 0 then (ok_Parser_unwind (1 : Int32) s ∧ mq_letP (f_Parser_unwind (1 : Int32) s) (fun (x436 : mS) => (mq_A (gP x436 4) ∧ mq_letP (gP x436 4) (fun (r437 : Nat) => (ok_Act_beginCondition r437 x436 ∧ mq_letP (f_Act_beginCondition r437 x436) (fun (x438 : mS) => True)))))) else (if (gI s 80 3) = 16 then (if (gI s 80 8) = 1 then True else (ok_Parser_closeLine s ∧ mq_letP (f_Parser_closeLine s) (fun (x440 : mS) => True))) else True)) else (if (gI s 80 3) = 16 then (if (gI s 80 8) = 1 then True else (ok_Parser_closeLine s ∧ mq_letP (f_Parser_closeLine s) (fun (x443 : mS) => True))) else True))) else (ok_Parser_operate (3 : Int32) s ∧ mq_letP (f_Parser_operate (3 : Int32) s) (fun (x445 : mS) => True))) else (if (gI s 80 3) = 13 then (if x10 = 0 then (if (gI s 80 3) = 22 then (if x10 = 0 then (if (gI s 80 3) = 12 then (if (gI s 80 8) = 0 then (ok_Parser_unwind (1 : Int32) s ∧ mq_letP (f_Parser_unwind (1 : Int32) s) (fun (x446 : mS) => (mq_A (gP x446 4) ∧ mq_letP (gP x446 4) (fun (r447 : Nat) => (ok_Act_beginCondition r447 x446 ∧ mq_letP (f_Act_beginCondition r447 x446) (fun (x448 : mS) => True)))))) else (if (gI s 80 3) = 16 then (if (gI s 80 8) = 1 then True else (ok_Parser_closeLine s ∧ mq_letP (f_Parser_closeLine s) (fun (x450 : mS) => True))) else True)) else (if (gI s 80 3) = 16 then (if (gI s 80 8) = 1 then True else (ok_Parser_closeLine s ∧ mq_letP (f_Parser_closeLine s) (fun (x453 : mS) => True))) else True)) else (ok_Parser_closeBracket s ∧ mq_letP (f_Parser_closeBracket s) (fun (x455 : mS) => True))) else (if (gI s 80 3) = 12 then (if (gI s 80 8) = 0 then (ok_Parser_unwind (1 : Int32) s ∧ mq_letP (f_Parser_unwind (1 : Int32) s) (fun (x456 : mS) => (mq_A (gP x456 4) ∧ mq_letP (gP x456 4) (fun (r457 : Nat) => (ok_Act_beginCondition r457 x456 ∧ mq_letP (f_Act_beginCondition r457 x456) (fun (x458 : mS) => True)))))) else (if (gI s 80 3) = 16 then (if (gI s 80 8) = 1 then True else (ok_Parser_closeLine s ∧ mq_letP (f_Parser_closeLine s) (fun (x460 : mS) => True))) else True)) else (if (gI s 80 3) = 16 then (if (gI s 80 8) = 1 then True else (ok_Parser_closeLine s ∧ mq_letP (f_Parser_closeLine s) (fun (x463 : mS) => True))) else True))) else (ok_Parser_operate (3 : Int32) s ∧ mq_letP (f_Parser_operate (3 : Int32) s) (fun (x465 : mS) => True))) else (if (gI s 80 3) = 22 then (if x10 = 0 then (if (gI s 80 3) = 12 then (if (gI s 80 8) = 0 then (ok_Parser_unwind (1 : Int32) s ∧ mq_letP (f_Parser_unwind (1 : Int32) s) (fun (x466 : mS) => (mq_A (gP x466 4) ∧ mq_letP (gP x466 4) (fun (r467 : Nat) => (ok_Act_beginCondition r467 x466 ∧ mq_letP (f_Act_beginCondition r467 x466) (fun (x468 : mS) => True)))))) else (if (gI s 80 3) = 16 then (if (gI s 80 8) = 1 then True else (ok_Parser_closeLine s ∧ mq_letP (f_Parser_closeLine s) (fun (x470 : mS) => True))) else True)) else (if (gI s 80 3) = 16 then (if (gI s 80 8) = 1 then True else (ok_Parser_closeLine s ∧ mq_letP (f_Parser_closeLine s) (fun (x473 : mS) => True))) else True)) else (ok_Parser_closeBracket s ∧ mq_letP (f_Parser_closeBracket s) (fun (x475 : mS) => True))) else (if (gI s 80 3) = 12 then (if (gI s 80 8) = 0 then (ok_Parser_unwind (1 : Int32) s ∧ mq_letP (f_Parser_unwind (1 : Int32) s) (fun (x476 : mS) => (mq_A (gP x476 4) ∧ mq_letP (gP x476 4) (fun (r477 : Nat) => (ok_Act_beginCondition r477 x476 ∧ mq_letP (f_Act_beginCondition r477 x476) (fun (x478 : mS) => True)))))) else (if (gI s 80 3) = 16 then (if (gI s 80 8) = 1 then True else (ok_Parser_closeLine s ∧ mq_letP (f_Parser_closeLine s) (fun (x480 : mS) => True))) else True)) else (if (gI s 80 3) = 16 then (if (gI s 80 8) = 1 then True else (ok_Parser_closeLine s ∧ mq_letP (f_Parser_closeLine s) (fun (x483 : mS) => True))) else True))))) else (if (gI s 80 8) = 1 then (ok_Parser_operate (1 : Int32) s ∧ mq_letP (f_Parser_operate (1 : Int32) s) (fun (x485 : mS) => True)) else (if (gI s 80 3) = 14 then (if x10 = 0 then (if (gI s 80 3) = 22 then (if x10 = 0 then (if (gI s 80 3) = 12 then (if (gI s 80 8) = 0 then (ok_Parser_unwind (1 : Int32) s ∧ mq_letP (f_Parser_unwind (1 : Int32) s) (fun (x486 : mS) => (mq_A (gP x486 4) ∧ mq_letP (gP x486 4) (fun (r487 : Nat) => (ok_Act_beginCondition r487 x486 ∧ mq_letP (f_Act_beginCondition r487 x486) (fun (x488 : mS) => True)))))) else (if (gI s 80 3) = 16 then (if (gI s 80 8) = 1 then True else (ok_Parser_closeLine s ∧ mq_letP (f_Parser_closeLine s) (fun (x490 : mS) => True))) else True)) else (if (gI s 80 3) = 16 then (if (gI s 80 8) = 1 then True else (ok_Parser_closeLine s ∧ mq_letP (f_Parser_closeLine s) (fun (x493 : mS) => True))) else True)) else (ok_Parser_closeBracket s ∧ mq_letP (f_Parser_closeBracket s) (fun (x495 : mS) => True))) else (if (gI s 80 3) = 12 then (if (gI s 80 8) = 0 then (ok_Parser_unwind (1 : Int32) s ∧ mq_letP (f_Parser_unwind (1 : Int32) s) (fun (x496 : mS) => (mq_A (gP x496 4) ∧ mq_letP (gP x496 4) (fun (r497 : Nat) => (ok_Act_beginCondition r497 x496 ∧ mq_letP (f_Act_beginCondition r497 x496) (fun (x498 : mS) => True)))))) else (if (gI s 80 3) = 16 then (if (gI s 80 8) = 1 then True else (ok_Parser_closeLine s ∧ mq_letP (f_Parser_closeLine s) (fun (x500 : mS) => True))) else True)) else (if (gI s 80 3) = 16 then (if (gI s 80 8) = 1 then True else (ok_Parser_closeLine s ∧ mq_letP (f_Parser_closeLine s) (fun (x503 : mS) => True))) else True))) else (ok_Parser_operate (3 : Int32) s ∧ mq_letP (f_Parser_operate (3 : Int32) s) (fun (x505 : mS) => True))) else (if (gI s 80 3) = 13 then (if x10 = 0 then (if (gI s 80 3) = 22 then (if x10 = 0 then (if (gI s 80 3) = 12 then (if (gI s 80 8) = 0 then (ok_Parser_unwind (1 : Int32) s ∧ mq_letP (f_Parser_unwind (1 : Int32) s) (fun (x506 : mS) => (mq_A (gP x506 4) ∧ mq_letP (gP x506 4) (fun (r507 : Nat) => (ok_Act_beginCondition r507 x506 ∧ mq_letP (f_Act_beginCondition r507 x506) (fun (x508 : mS) => True)))))) else (if (gI s 80 3) = 16 then (if (gI s 80 8) = 1 then True else (ok_Parser_closeLine s ∧ mq_letP (f_Parser_closeLine s) (fun (x510 : mS) => True))) else True)) else (if (gI s 80 3) = 16 then (if (gI s 80 8) = 1 then True else (ok_Parser_closeLine s ∧ mq_letP (f_Parser_closeLine s) (fun (x513 : mS) => True))) else True)) else (ok_Parser_closeBracket s ∧ mq_letP (f_Parser_closeBracket s) (fun (x515 : mS) => True))) else (if (gI s 80 3) = 12 then (if (gI s 80 8) = 0 then (ok_Parser_unwind (1 : Int32) s ∧ mq_letP (f_Parser_unwind (1 : Int32) s) (fun (x516 : mS) => (mq_A (gP x516 4) ∧ mq_letP (gP x516 4) (fun (r517 : Nat) => (ok_Act_beginCondition r517 x516 ∧ mq_letP (f_Act_beginCondition r517 x516) (fun (x518 : mS) => True)))))) else (if (gI s 80 3) = 16 then (if (gI s 80 8) = 1 then True else (ok_Parser_closeLine s ∧ mq_letP (f_Parser_closeLine s) (fun (x520 : mS) => True))) else True)) else (if (gI s 80 3) = 16 then (if (gI s 80 8) = 1 then True else (ok_Parser_closeLine s ∧ mq_letP (f_Parser_closeLine s) (fun (x523 : mS) => True))) else True))) else (ok_Parser_operate (3 : Int32) s ∧ mq_letP (f_Parser_operate (3 : Int32) s) (fun (x525 : mS) => True))) else (if (gI s 80 3) = 22 then (if x10 = 0 then (if (gI s 80 3) = 12 then (if (gI s 80 8) = 0 then (ok_Parser_unwind (1 : Int32) s ∧ mq_letP (f_Parser_unwind (1 : Int32) s) (fun (x526 : mS) => (mq_A (gP x526 4) ∧ mq_letP (gP x526 4) (fun (r527 : Nat) => (ok_Act_beginCondition r527 x526 ∧ mq_letP (f_Act_beginCondition r527 x526) (fun (x528 : mS) => True)))))) else (if (gI s 80 3) = 16 then (if (gI s 80 8) = 1 then True else (ok_Parser_closeLine s ∧ mq_letP (f_Parser_closeLine s) (fun (x530 : mS) => True))) else True)) else (if (gI s 80 3) = 16 then (if (gI s 80 8) = 1 then True else (ok_Parser_closeLine s ∧ mq_letP (f_Parser_closeLine s) (fun (x533 : mS) => True))) else True)) else (ok_Parser_closeBracket s ∧ mq_letP (f_Parser_closeBracket s) (fun (x535 : mS) => True))) else (if (gI s 80 3) = 12 then (if (gI s 80 8) = 0 then (ok_Parser_unwind (1 : Int32) s ∧ mq_letP (f_Parser_unwind (1 : Int32) s) (fun (x536 : mS) => (mq_A (gP x536 4) ∧ mq_letP (gP x536 4) (fun (r537 : Nat) => (ok_Act_beginCondition r537 x536 ∧ mq_letP (f_Act_beginCondition r537 x536) (fun (x538 : mS) => True)))))) else (if (gI s 80 3) = 16 then (if (gI s 80 8) = 1 then True else (ok_Parser_closeLine s ∧ mq_letP (f_Parser_closeLine s) (fun (x540 : mS) => True))) else True)) else (if (gI s 80 3) = 16 then (if (gI s 80 8) = 1 then True else (ok_Parser_closeLine s ∧ mq_letP (f_Parser_closeLine s) (fun (x543 : mS) => True))) else True)))))))) else (True ∧ mq_letP (if (gI s 80 3) = 20 then (2 : Int32) else (1 : Int32)) (fun (x545 : Int32) => (ok_Parser_operate x545 s ∧ mq_letP (f_Parser_operate x545 s) (fun (x546 : mS) => True)))))))))
set_option maxRecDepth 4000 in
theorem t_Parser_takeBehind {len : Nat} {xs : Nat → Int32}  (d : Nat)  (s : mS) {T : Option mm_R} (K : mS → Prop) (hK : ∀ t, K t → some (none, mT t) = T) : ok_Parser_takeBehind s → K (f_Parser_takeBehind s) → mm_fix (mm_X len xs) mm_Y (mm_call (mm_X len xs) mm_Y (d + 3)) (mm_look mc_Parser_takeBehind) (0, [some (.ref 80), none], [], mT s) = T := by
  unfold ok_Parser_takeBehind f_Parser_takeBehind
  refine w_go K 3 (c' := (5, [some (.ref 80), none], [.int 2, .int (gI s 80 8)], mT s)) rfl ?_
  refine w_join K (fun (x10 : Int32) => mm_fix (mm_X len xs) mm_Y (mm_call (mm_X len xs) mm_Y (d + 3)) (mm_look mc_Parser_takeBehind) (21, [some (.ref 80), none], [.int x10], mT s) = T) (fun K hJ => ?_) (fun x10 h1 h2 => ?_)
  · refine w_go K 0 (c' := (5, [some (.ref 80), none], [.int 2, .int (gI s 80 8)], mT s)) rfl ?_
    refine w_ieqT K rfl (fun _ => ?_) (fun _ => ?_)
    · refine w_go K 2 (c' := (21, [some (.ref 80), none], [.int 1], mT s)) rfl ?_
      exact fun _ h => hJ _ h
    · refine w_go K 3 (c' := (13, [some (.ref 80), none], [.int 3, .int (gI s 80 8)], mT s)) rfl ?_
      refine w_ineT K rfl (fun _ => ?_) (fun _ => ?_)
      · refine w_go K 2 (c' := (21, [some (.ref 80), none], [.int 1], mT s)) rfl ?_
        exact fun _ h => hJ _ h
      · refine w_go K 1 (c' := (21, [some (.ref 80), none], [.int 0], mT s)) rfl ?_
        exact fun _ h => hJ _ h
  · revert h1 h2
    refine w_go K 4 (c' := (28, [some (.ref 80), some (.int x10)], [.int 17, .int (gI s 80 3)], mT s)) rfl ?_
    refine w_ilt K rfl (fun _ => ?_) (fun _ => ?_)
    · refine w_go K 3 (c' := (75, [some (.ref 80), some (.int x10)], [.int 23, .int (gI s 80 3)], mT s)) rfl ?_
      refine w_ilt K rfl (fun _ => ?_) (fun _ => ?_)
      · refine w_go K 3 (c' := (114, [some (.ref 80), some (.int x10)], [.int 14, .int (gI s 80 3)], mT s)) rfl ?_
        refine w_ieq K rfl (fun _ => ?_) (fun _ => ?_)
        · refine w_go K 1 (c' := (127, [some (.ref 80), some (.int x10)], [.int x10], mT s)) rfl ?_
          refine w_zeq K rfl (fun _ => ?_) (fun _ => ?_)
          · refine w_go K 3 (c' := (144, [some (.ref 80), some (.int x10)], [.int 22, .int (gI s 80 3)], mT s)) rfl ?_
            refine w_ine K rfl (fun _ => ?_) (fun _ => ?_)
            · refine w_go K 1 (c' := (148, [some (.ref 80), some (.int x10)], [.int x10], mT s)) rfl ?_
              refine w_zeq K rfl (fun _ => ?_) (fun _ => ?_)
              · refine w_go K 3 (c' := (164, [some (.ref 80), some (.int x10)], [.int 12, .int (gI s 80 3)], mT s)) rfl ?_
                refine w_ine K rfl (fun _ => ?_) (fun _ => ?_)
                · refine w_go K 2 (c' := (171, [some (.ref 80), some (.int x10)], [.int (gI s 80 8)], mT s)) rfl ?_
                  refine w_zne K rfl (fun _ => ?_) (fun _ => ?_)
                  · refine w_go K 2 (c' := (176, [some (.ref 80), some (.int x10)], [.int 1, .ref 80], mT s)) rfl ?_
                    refine w_callL K (E := f_Parser_unwind (1 : Int32) s) (g := fun (x11 : mS) => (none, mT x11)) rfl (m_Parser_unwind (len := len) (xs := xs) (d + 1) (1 : Int32) s) (fun x11 => ?_)
                    refine w_go K 1 (c' := (180, [some (.ref 80), some (.int x10)], [.ref 80], mT x11)) rfl ?_
                    refine w_gP4 K rfl (fun r12 hr12 => ?_)
                    refine w_go K 0 (c' := (183, [some (.ref 80), some (.int x10)], [.ref r12], mT x11)) rfl ?_
                    refine w_callL K (E := f_Act_beginCondition r12 x11) (g := fun (x13 : mS) => (none, mT x13)) (st_c (b := 1) (st := [.ref r12]) (args := []) (rest := []) rfl rfl rfl hr12) (m_Act_beginCondition (len := len) (xs := xs) r12 hr12 (d + 2) x11) (fun x13 => ?_)
                    refine w_go K 4 (c' := (223, [some (.ref 80), some (.int x10)], [], mT (sI x13 80 7 3))) rfl ?_
                    exact w_ret K rfl (hK _)
                  · refine w_go K 3 (c' := (200, [some (.ref 80), some (.int x10)], [.int 16, .int (gI s 80 3)], mT s)) rfl ?_
                    refine w_ine K rfl (fun _ => ?_) (fun _ => ?_)
                    · refine w_go K 3 (c' := (208, [some (.ref 80), some (.int x10)], [.int 1, .int (gI s 80 8)], mT s)) rfl ?_
                      refine w_ieq K rfl (fun _ => ?_) (fun _ => ?_)
                      · refine w_go K 2 (c' := (220, [some (.ref 80), some (.int x10)], [.int 1, .ref 80], mT s)) rfl ?_
                        refine w_callLT K (E := f_Parser_fail (1 : Int32) s) (g := fun (x14 : mS) => (none, mT x14)) rfl (m_Parser_fail (len := len) (xs := xs) (d + 2) (1 : Int32) s) (fun x14 => ?_)
                        refine w_go K 0 (c' := (223, [some (.ref 80), some (.int x10)], [], mT x14)) rfl ?_
                        exact w_ret K rfl (hK _)
                      · refine w_go K 1 (c' := (212, [some (.ref 80), some (.int x10)], [.ref 80], mT s)) rfl ?_
                        refine w_callL K (E := f_Parser_closeLine s) (g := fun (x15 : mS) => (none, mT x15)) rfl (m_Parser_closeLine (len := len) (xs := xs) (d + 0) s) (fun x15 => ?_)
                        refine w_go K 1 (c' := (223, [some (.ref 80), some (.int x10)], [], mT x15)) rfl ?_
                        exact w_ret K rfl (hK _)
                    · refine w_go K 2 (c' := (220, [some (.ref 80), some (.int x10)], [.int 1, .ref 80], mT s)) rfl ?_
                      refine w_callLT K (E := f_Parser_fail (1 : Int32) s) (g := fun (x16 : mS) => (none, mT x16)) rfl (m_Parser_fail (len := len) (xs := xs) (d + 2) (1 : Int32) s) (fun x16 => ?_)
                      refine w_go K 0 (c' := (223, [some (.ref 80), some (.int x10)], [], mT x16)) rfl ?_
                      exact w_ret K rfl (hK _)
                · refine w_go K 3 (c' := (200, [some (.ref 80), some (.int x10)], [.int 16, .int (gI s 80 3)], mT s)) rfl ?_
                  refine w_ine K rfl (fun _ => ?_) (fun _ => ?_)
                  · refine w_go K 3 (c' := (208, [some (.ref 80), some (.int x10)], [.int 1, .int (gI s 80 8)], mT s)) rfl ?_
                    refine w_ieq K rfl (fun _ => ?_) (fun _ => ?_)
                    · refine w_go K 2 (c' := (220, [some (.ref 80), some (.int x10)], [.int 1, .ref 80], mT s)) rfl ?_
                      refine w_callLT K (E := f_Parser_fail (1 : Int32) s) (g := fun (x17 : mS) => (none, mT x17)) rfl (m_Parser_fail (len := len) (xs := xs) (d + 2) (1 : Int32) s) (fun x17 => ?_)
                      refine w_go K 0 (c' := (223, [some (.ref 80), some (.int x10)], [], mT x17)) rfl ?_
                      exact w_ret K rfl (hK _)
                    · refine w_go K 1 (c' := (212, [some (.ref 80), some (.int x10)], [.ref 80], mT s)) rfl ?_
                      refine w_callL K (E := f_Parser_closeLine s) (g := fun (x18 : mS) => (none, mT x18)) rfl (m_Parser_closeLine (len := len) (xs := xs) (d + 0) s) (fun x18 => ?_)
                      refine w_go K 1 (c' := (223, [some (.ref 80), some (.int x10)], [], mT x18)) rfl ?_
                      exact w_ret K rfl (hK _)
                  · refine w_go K 2 (c' := (220, [some (.ref 80), some (.int x10)], [.int 1, .ref 80], mT s)) rfl ?_
                    refine w_callLT K (E := f_Parser_fail (1 : Int32) s) (g := fun (x19 : mS) => (none, mT x19)) rfl (m_Parser_fail (len := len) (xs := xs) (d + 2) (1 : Int32) s) (fun x19 => ?_)
                    refine w_go K 0 (c' := (223, [some (.ref 80), some (.int x10)], [], mT x19)) rfl ?_
                    exact w_ret K rfl (hK _)
              · refine w_go K 1 (c' := (152, [some (.ref 80), some (.int x10)], [.ref 80], mT s)) rfl ?_
                refine w_callL K (E := f_Parser_closeBracket s) (g := fun (x20 : mS) => (none, mT x20)) rfl (m_Parser_closeBracket (len := len) (xs := xs) (d + 0) s) (fun x20 => ?_)
                refine w_go K 1 (c' := (223, [some (.ref 80), some (.int x10)], [], mT x20)) rfl ?_
                exact w_ret K rfl (hK _)
            · refine w_go K 3 (c' := (164, [some (.ref 80), some (.int x10)], [.int 12, .int (gI s 80 3)], mT s)) rfl ?_
              refine w_ine K rfl (fun _ => ?_) (fun _ => ?_)
              · refine w_go K 2 (c' := (171, [some (.ref 80), some (.int x10)], [.int (gI s 80 8)], mT s)) rfl ?_
                refine w_zne K rfl (fun _ => ?_) (fun _ => ?_)
                · refine w_go K 2 (c' := (176, [some (.ref 80), some (.int x10)], [.int 1, .ref 80], mT s)) rfl ?_
                  refine w_callL K (E := f_Parser_unwind (1 : Int32) s) (g := fun (x21 : mS) => (none, mT x21)) rfl (m_Parser_unwind (len := len) (xs := xs) (d + 1) (1 : Int32) s) (fun x21 => ?_)
                  refine w_go K 1 (c' := (180, [some (.ref 80), some (.int x10)], [.ref 80], mT x21)) rfl ?_
                  refine w_gP4 K rfl (fun r22 hr22 => ?_)
                  refine w_go K 0 (c' := (183, [some (.ref 80), some (.int x10)], [.ref r22], mT x21)) rfl ?_
                  refine w_callL K (E := f_Act_beginCondition r22 x21) (g := fun (x23 : mS) => (none, mT x23)) (st_c (b := 1) (st := [.ref r22]) (args := []) (rest := []) rfl rfl rfl hr22) (m_Act_beginCondition (len := len) (xs := xs) r22 hr22 (d + 2) x21) (fun x23 => ?_)
                  refine w_go K 4 (c' := (223, [some (.ref 80), some (.int x10)], [], mT (sI x23 80 7 3))) rfl ?_
                  exact w_ret K rfl (hK _)
                · refine w_go K 3 (c' := (200, [some (.ref 80), some (.int x10)], [.int 16, .int (gI s 80 3)], mT s)) rfl ?_
                  refine w_ine K rfl (fun _ => ?_) (fun _ => ?_)
                  · refine w_go K 3 (c' := (208, [some (.ref 80), some (.int x10)], [.int 1, .int (gI s 80 8)], mT s)) rfl ?_
                    refine w_ieq K rfl (fun _ => ?_) (fun _ => ?_)
                    · refine w_go K 2 (c' := (220, [some (.ref 80), some (.int x10)], [.int 1, .ref 80], mT s)) rfl ?_
                      refine w_callLT K (E := f_Parser_fail (1 : Int32) s) (g := fun (x24 : mS) => (none, mT x24)) rfl (m_Parser_fail (len := len) (xs := xs) (d + 2) (1 : Int32) s) (fun x24 => ?_)
                      refine w_go K 0 (c' := (223, [some (.ref 80), some (.int x10)], [], mT x24)) rfl ?_
                      exact w_ret K rfl (hK _)
                    · refine w_go K 1 (c' := (212, [some (.ref 80), some (.int x10)], [.ref 80], mT s)) rfl ?_
                      refine w_callL K (E := f_Parser_closeLine s) (g := fun (x25 : mS) => (none, mT x25)) rfl (m_Parser_closeLine (len := len) (xs := xs) (d + 0) s) (fun x25 => ?_)
                      refine w_go K 1 (c' := (223, [some (.ref 80), some (.int x10)], [], mT x25)) rfl ?_
                      exact w_ret K rfl (hK _)
                  · refine w_go K 2 (c' := (220, [some (.ref 80), some (.int x10)], [.int 1, .ref 80], mT s)) rfl ?_
                    refine w_callLT K (E := f_Parser_fail (1 : Int32) s) (g := fun (x26 : mS) => (none, mT x26)) rfl (m_Parser_fail (len := len) (xs := xs) (d + 2) (1 : Int32) s) (fun x26 => ?_)
                    refine w_go K 0 (c' := (223, [some (.ref 80), some (.int x10)], [], mT x26)) rfl ?_
                    exact w_ret K rfl (hK _)
              · refine w_go K 3 (c' := (200, [some (.ref 80), some (.int x10)], [.int 16, .int (gI s 80 3)], mT s)) rfl ?_
                refine w_ine K rfl (fun _ => ?_) (fun _ => ?_)
                · refine w_go K 3 (c' := (208, [some (.ref 80), some (.int x10)], [.int 1, .int (gI s 80 8)], mT s)) rfl ?_
                  refine w_ieq K rfl (fun _ => ?_) (fun _ => ?_)
                  · refine w_go K 2 (c' := (220, [some (.ref 80), some (.int x10)], [.int 1, .ref 80], mT s)) rfl ?_
                    refine w_callLT K (E := f_Parser_fail (1 : Int32) s) (g := fun (x27 : mS) => (none, mT x27)) rfl (m_Parser_fail (len := len) (xs := xs) (d + 2) (1 : Int32) s) (fun x27 => ?_)
                    refine w_go K 0 (c' := (223, [some (.ref 80), some (.int x10)], [], mT x27)) rfl ?_
                    exact w_ret K rfl (hK _)
                  · refine w_go K 1 (c' := (212, [some (.ref 80), some (.int x10)], [.ref 80], mT s)) rfl ?_
                    refine w_callL K (E := f_Parser_closeLine s) (g := fun (x28 : mS) => (none, mT x28)) rfl (m_Parser_closeLine (len := len) (xs := xs) (d + 0) s) (fun x28 => ?_)
                    refine w_go K 1 (c' := (223, [some (.ref 80), some (.int x10)], [], mT x28)) rfl ?_
                    exact w_ret K rfl (hK _)
                · refine w_go K 2 (c' := (220, [some (.ref 80), some (.int x10)], [.int 1, .ref 80], mT s)) rfl ?_
                  refine w_callLT K (E := f_Parser_fail (1 : Int32) s) (g := fun (x29 : mS) => (none, mT x29)) rfl (m_Parser_fail (len := len) (xs := xs) (d + 2) (1 : Int32) s) (fun x29 => ?_)
                  refine w_go K 0 (c' := (223, [some (.ref 80), some (.int x10)], [], mT x29)) rfl ?_
                  exact w_ret K rfl (hK _)
          · refine w_go K 2 (c' := (132, [some (.ref 80), some (.int x10)], [.int 3, .ref 80], mT s)) rfl ?_
            refine w_callL K (E := f_Parser_operate (3 : Int32) s) (g := fun (x30 : mS) => (none, mT x30)) rfl (m_Parser_operate (len := len) (xs := xs) (d + 0) (3 : Int32) s) (fun x30 => ?_)
            refine w_go K 1 (c' := (223, [some (.ref 80), some (.int x10)], [], mT x30)) rfl ?_
            exact w_ret K rfl (hK _)
        · refine w_go K 3 (c' := (123, [some (.ref 80), some (.int x10)], [.int 13, .int (gI s 80 3)], mT s)) rfl ?_
          refine w_ine K rfl (fun _ => ?_) (fun _ => ?_)
          · refine w_go K 1 (c' := (127, [some (.ref 80), some (.int x10)], [.int x10], mT s)) rfl ?_
            refine w_zeq K rfl (fun _ => ?_) (fun _ => ?_)
            · refine w_go K 3 (c' := (144, [some (.ref 80), some (.int x10)], [.int 22, .int (gI s 80 3)], mT s)) rfl ?_
              refine w_ine K rfl (fun _ => ?_) (fun _ => ?_)
              · refine w_go K 1 (c' := (148, [some (.ref 80), some (.int x10)], [.int x10], mT s)) rfl ?_
                refine w_zeq K rfl (fun _ => ?_) (fun _ => ?_)
                · refine w_go K 3 (c' := (164, [some (.ref 80), some (.int x10)], [.int 12, .int (gI s 80 3)], mT s)) rfl ?_
                  refine w_ine K rfl (fun _ => ?_) (fun _ => ?_)
                  · refine w_go K 2 (c' := (171, [some (.ref 80), some (.int x10)], [.int (gI s 80 8)], mT s)) rfl ?_
                    refine w_zne K rfl (fun _ => ?_) (fun _ => ?_)
                    · refine w_go K 2 (c' := (176, [some (.ref 80), some (.int x10)], [.int 1, .ref 80], mT s)) rfl ?_
                      refine w_callL K (E := f_Parser_unwind (1 : Int32) s) (g := fun (x31 : mS) => (none, mT x31)) rfl (m_Parser_unwind (len := len) (xs := xs) (d + 1) (1 : Int32) s) (fun x31 => ?_)
                      refine w_go K 1 (c' := (180, [some (.ref 80), some (.int x10)], [.ref 80], mT x31)) rfl ?_
                      refine w_gP4 K rfl (fun r32 hr32 => ?_)
                      refine w_go K 0 (c' := (183, [some (.ref 80), some (.int x10)], [.ref r32], mT x31)) rfl ?_
                      refine w_callL K (E := f_Act_beginCondition r32 x31) (g := fun (x33 : mS) => (none, mT x33)) (st_c (b := 1) (st := [.ref r32]) (args := []) (rest := []) rfl rfl rfl hr32) (m_Act_beginCondition (len := len) (xs := xs) r32 hr32 (d + 2) x31) (fun x33 => ?_)
                      refine w_go K 4 (c' := (223, [some (.ref 80), some (.int x10)], [], mT (sI x33 80 7 3))) rfl ?_
                      exact w_ret K rfl (hK _)
                    · refine w_go K 3 (c' := (200, [some (.ref 80), some (.int x10)], [.int 16, .int (gI s 80 3)], mT s)) rfl ?_
                      refine w_ine K rfl (fun _ => ?_) (fun _ => ?_)
                      · refine w_go K 3 (c' := (208, [some (.ref 80), some (.int x10)], [.int 1, .int (gI s 80 8)], mT s)) rfl ?_
                        refine w_ieq K rfl (fun _ => ?_) (fun _ => ?_)
                        · refine w_go K 2 (c' := (220, [some (.ref 80), some (.int x10)], [.int 1, .ref 80], mT s)) rfl ?_
                          refine w_callLT K (E := f_Parser_fail (1 : Int32) s) (g := fun (x34 : mS) => (none, mT x34)) rfl (m_Parser_fail (len := len) (xs := xs) (d + 2) (1 : Int32) s) (fun x34 => ?_)
                          refine w_go K 0 (c' := (223, [some (.ref 80), some (.int x10)], [], mT x34)) rfl ?_
                          exact w_ret K rfl (hK _)
                        · refine w_go K 1 (c' := (212, [some (.ref 80), some (.int x10)], [.ref 80], mT s)) rfl ?_
                          refine w_callL K (E := f_Parser_closeLine s) (g := fun (x35 : mS) => (none, mT x35)) rfl (m_Parser_closeLine (len := len) (xs := xs) (d + 0) s) (fun x35 => ?_)
                          refine w_go K 1 (c' := (223, [some (.ref 80), some (.int x10)], [], mT x35)) rfl ?_
                          exact w_ret K rfl (hK _)
                      · refine w_go K 2 (c' := (220, [some (.ref 80), some (.int x10)], [.int 1, .ref 80], mT s)) rfl ?_
                        refine w_callLT K (E := f_Parser_fail (1 : Int32) s) (g := fun (x36 : mS) => (none, mT x36)) rfl (m_Parser_fail (len := len) (xs := xs) (d + 2) (1 : Int32) s) (fun x36 => ?_)
                        refine w_go K 0 (c' := (223, [some (.ref 80), some (.int x10)], [], mT x36)) rfl ?_
                        exact w_ret K rfl (hK _)
                  · refine w_go K 3 (c' := (200, [some (.ref 80), some (.int x10)], [.int 16, .int (gI s 80 3)], mT s)) rfl ?_
                    refine w_ine K rfl (fun _ => ?_) (fun _ => ?_)
                    · refine w_go K 3 (c' := (208, [some (.ref 80), some (.int x10)], [.int 1, .int (gI s 80 8)], mT s)) rfl ?_
                      refine w_ieq K rfl (fun _ => ?_) (fun _ => ?_)
                      · refine w_go K 2 (c' := (220, [some (.ref 80), some (.int x10)], [.int 1, .ref 80], mT s)) rfl ?_
                        refine w_callLT K (E := f_Parser_fail (1 : Int32) s) (g := fun (x37 : mS) => (none, mT x37)) rfl (m_Parser_fail (len := len) (xs := xs) (d + 2) (1 : Int32) s) (fun x37 => ?_)
                        refine w_go K 0 (c' := (223, [some (.ref 80), some (.int x10)], [], mT x37)) rfl ?_
                        exact w_ret K rfl (hK _)
                      · refine w_go K 1 (c' := (212, [some (.ref 80), some (.int x10)], [.ref 80], mT s)) rfl ?_
                        refine w_callL K (E := f_Parser_closeLine s) (g := fun (x38 : mS) => (none, mT x38)) rfl (m_Parser_closeLine (len := len) (xs := xs) (d + 0) s) (fun x38 => ?_)
                        refine w_go K 1 (c' := (223, [some (.ref 80), some (.int x10)], [], mT x38)) rfl ?_
                        exact w_ret K rfl (hK _)
                    · refine w_go K 2 (c' := (220, [some (.ref 80), some (.int x10)], [.int 1, .ref 80], mT s)) rfl ?_
                      refine w_callLT K (E := f_Parser_fail (1 : Int32) s) (g := fun (x39 : mS) => (none, mT x39)) rfl (m_Parser_fail (len := len) (xs := xs) (d + 2) (1 : Int32) s) (fun x39 => ?_)
                      refine w_go K 0 (c' := (223, [some (.ref 80), some (.int x10)], [], mT x39)) rfl ?_
                      exact w_ret K rfl (hK _)
                · refine w_go K 1 (c' := (152, [some (.ref 80), some (.int x10)], [.ref 80], mT s)) rfl ?_
                  refine w_callL K (E := f_Parser_closeBracket s) (g := fun (x40 : mS) => (none, mT x40)) rfl (m_Parser_closeBracket (len := len) (xs := xs) (d + 0) s) (fun x40 => ?_)
                  refine w_go K 1 (c' := (223, [some (.ref 80), some (.int x10)], [], mT x40)) rfl ?_
                  exact w_ret K rfl (hK _)
              · refine w_go K 3 (c' := (164, [some (.ref 80), some (.int x10)], [.int 12, .int (gI s 80 3)], mT s)) rfl ?_
                refine w_ine K rfl (fun _ => ?_) (fun _ => ?_)
                · refine w_go K 2 (c' := (171, [some (.ref 80), some (.int x10)], [.int (gI s 80 8)], mT s)) rfl ?_
                  refine w_zne K rfl (fun _ => ?_) (fun _ => ?_)
                  · refine w_go K 2 (c' := (176, [some (.ref 80), some (.int x10)], [.int 1, .ref 80], mT s)) rfl ?_
                    refine w_callL K (E := f_Parser_unwind (1 : Int32) s) (g := fun (x41 : mS) => (none, mT x41)) rfl (m_Parser_unwind (len := len) (xs := xs) (d + 1) (1 : Int32) s) (fun x41 => ?_)
                    refine w_go K 1 (c' := (180, [some (.ref 80), some (.int x10)], [.ref 80], mT x41)) rfl ?_
                    refine w_gP4 K rfl (fun r42 hr42 => ?_)
                    refine w_go K 0 (c' := (183, [some (.ref 80), some (.int x10)], [.ref r42], mT x41)) rfl ?_
                    refine w_callL K (E := f_Act_beginCondition r42 x41) (g := fun (x43 : mS) => (none, mT x43)) (st_c (b := 1) (st := [.ref r42]) (args := []) (rest := []) rfl rfl rfl hr42) (m_Act_beginCondition (len := len) (xs := xs) r42 hr42 (d + 2) x41) (fun x43 => ?_)
                    refine w_go K 4 (c' := (223, [some (.ref 80), some (.int x10)], [], mT (sI x43 80 7 3))) rfl ?_
                    exact w_ret K rfl (hK _)
                  · refine w_go K 3 (c' := (200, [some (.ref 80), some (.int x10)], [.int 16, .int (gI s 80 3)], mT s)) rfl ?_
                    refine w_ine K rfl (fun _ => ?_) (fun _ => ?_)
                    · refine w_go K 3 (c' := (208, [some (.ref 80), some (.int x10)], [.int 1, .int (gI s 80 8)], mT s)) rfl ?_
                      refine w_ieq K rfl (fun _ => ?_) (fun _ => ?_)
                      · refine w_go K 2 (c' := (220, [some (.ref 80), some (.int x10)], [.int 1, .ref 80], mT s)) rfl ?_
                        refine w_callLT K (E := f_Parser_fail (1 : Int32) s) (g := fun (x44 : mS) => (none, mT x44)) rfl (m_Parser_fail (len := len) (xs := xs) (d + 2) (1 : Int32) s) (fun x44 => ?_)
                        refine w_go K 0 (c' := (223, [some (.ref 80), some (.int x10)], [], mT x44)) rfl ?_
                        exact w_ret K rfl (hK _)
                      · refine w_go K 1 (c' := (212, [some (.ref 80), some (.int x10)], [.ref 80], mT s)) rfl ?_
                        refine w_callL K (E := f_Parser_closeLine s) (g := fun (x45 : mS) => (none, mT x45)) rfl (m_Parser_closeLine (len := len) (xs := xs) (d + 0) s) (fun x45 => ?_)
                        refine w_go K 1 (c' := (223, [some (.ref 80), some (.int x10)], [], mT x45)) rfl ?_
                        exact w_ret K rfl (hK _)
                    · refine w_go K 2 (c' := (220, [some (.ref 80), some (.int x10)], [.int 1, .ref 80], mT s)) rfl ?_
                      refine w_callLT K (E := f_Parser_fail (1 : Int32) s) (g := fun (x46 : mS) => (none, mT x46)) rfl (m_Parser_fail (len := len) (xs := xs) (d + 2) (1 : Int32) s) (fun x46 => ?_)
                      refine w_go K 0 (c' := (223, [some (.ref 80), some (.int x10)], [], mT x46)) rfl ?_
                      exact w_ret K rfl (hK _)
                · refine w_go K 3 (c' := (200, [some (.ref 80), some (.int x10)], [.int 16, .int (gI s 80 3)], mT s)) rfl ?_
                  refine w_ine K rfl (fun _ => ?_) (fun _ => ?_)
                  · refine w_go K 3 (c' := (208, [some (.ref 80), some (.int x10)], [.int 1, .int (gI s 80 8)], mT s)) rfl ?_
                    refine w_ieq K rfl (fun _ => ?_) (fun _ => ?_)
                    · refine w_go K 2 (c' := (220, [some (.ref 80), some (.int x10)], [.int 1, .ref 80], mT s)) rfl ?_
                      refine w_callLT K (E := f_Parser_fail (1 : Int32) s) (g := fun (x47 : mS) => (none, mT x47)) rfl (m_Parser_fail (len := len) (xs := xs) (d + 2) (1 : Int32) s) (fun x47 => ?_)
                      refine w_go K 0 (c' := (223, [some (.ref 80), some (.int x10)], [], mT x47)) rfl ?_
                      exact w_ret K rfl (hK _)
                    · refine w_go K 1 (c' := (212, [some (.ref 80), some (.int x10)], [.ref 80], mT s)) rfl ?_
                      refine w_callL K (E := f_Parser_closeLine s) (g := fun (x48 : mS) => (none, mT x48)) rfl (m_Parser_closeLine (len := len) (xs := xs) (d + 0) s) (fun x48 => ?_)
                      refine w_go K 1 (c' := (223, [some (.ref 80), some (.int x10)], [], mT x48)) rfl ?_
                      exact w_ret K rfl (hK _)
                  · refine w_go K 2 (c' := (220, [some (.ref 80), some (.int x10)], [.int 1, .ref 80], mT s)) rfl ?_
                    refine w_callLT K (E := f_Parser_fail (1 : Int32) s) (g := fun (x49 : mS) => (none, mT x49)) rfl (m_Parser_fail (len := len) (xs := xs) (d + 2) (1 : Int32) s) (fun x49 => ?_)
                    refine w_go K 0 (c' := (223, [some (.ref 80), some (.int x10)], [], mT x49)) rfl ?_
                    exact w_ret K rfl (hK _)
            · refine w_go K 2 (c' := (132, [some (.ref 80), some (.int x10)], [.int 3, .ref 80], mT s)) rfl ?_
              refine w_callL K (E := f_Parser_operate (3 : Int32) s) (g := fun (x50 : mS) => (none, mT x50)) rfl (m_Parser_operate (len := len) (xs := xs) (d + 0) (3 : Int32) s) (fun x50 => ?_)
              refine w_go K 1 (c' := (223, [some (.ref 80), some (.int x10)], [], mT x50)) rfl ?_
              exact w_ret K rfl (hK _)
          · refine w_go K 3 (c' := (144, [some (.ref 80), some (.int x10)], [.int 22, .int (gI s 80 3)], mT s)) rfl ?_
            refine w_ine K rfl (fun _ => ?_) (fun _ => ?_)
            · refine w_go K 1 (c' := (148, [some (.ref 80), some (.int x10)], [.int x10], mT s)) rfl ?_
              refine w_zeq K rfl (fun _ => ?_) (fun _ => ?_)
              · refine w_go K 3 (c' := (164, [some (.ref 80), some (.int x10)], [.int 12, .int (gI s 80 3)], mT s)) rfl ?_
                refine w_ine K rfl (fun _ => ?_) (fun _ => ?_)
                · refine w_go K 2 (c' := (171, [some (.ref 80), some (.int x10)], [.int (gI s 80 8)], mT s)) rfl ?_
                  refine w_zne K rfl (fun _ => ?_) (fun _ => ?_)
                  · refine w_go K 2 (c' := (176, [some (.ref 80), some (.int x10)], [.int 1, .ref 80], mT s)) rfl ?_
                    refine w_callL K (E := f_Parser_unwind (1 : Int32) s) (g := fun (x51 : mS) => (none, mT x51)) rfl (m_Parser_unwind (len := len) (xs := xs) (d + 1) (1 : Int32) s) (fun x51 => ?_)
                    refine w_go K 1 (c' := (180, [some (.ref 80), some (.int x10)], [.ref 80], mT x51)) rfl ?_
                    refine w_gP4 K rfl (fun r52 hr52 => ?_)
                    refine w_go K 0 (c' := (183, [some (.ref 80), some (.int x10)], [.ref r52], mT x51)) rfl ?_
                    refine w_callL K (E := f_Act_beginCondition r52 x51) (g := fun (x53 : mS) => (none, mT x53)) (st_c (b := 1) (st := [.ref r52]) (args := []) (rest := []) rfl rfl rfl hr52) (m_Act_beginCondition (len := len) (xs := xs) r52 hr52 (d + 2) x51) (fun x53 => ?_)
                    refine w_go K 4 (c' := (223, [some (.ref 80), some (.int x10)], [], mT (sI x53 80 7 3))) rfl ?_
                    exact w_ret K rfl (hK _)
                  · refine w_go K 3 (c' := (200, [some (.ref 80), some (.int x10)], [.int 16, .int (gI s 80 3)], mT s)) rfl ?_
                    refine w_ine K rfl (fun _ => ?_) (fun _ => ?_)
                    · refine w_go K 3 (c' := (208, [some (.ref 80), some (.int x10)], [.int 1, .int (gI s 80 8)], mT s)) rfl ?_
                      refine w_ieq K rfl (fun _ => ?_) (fun _ => ?_)
                      · refine w_go K 2 (c' := (220, [some (.ref 80), some (.int x10)], [.int 1, .ref 80], mT s)) rfl ?_
                        refine w_callLT K (E := f_Parser_fail (1 : Int32) s) (g := fun (x54 : mS) => (none, mT x54)) rfl (m_Parser_fail (len := len) (xs := xs) (d + 2) (1 : Int32) s) (fun x54 => ?_)
                        refine w_go K 0 (c' := (223, [some (.ref 80), some (.int x10)], [], mT x54)) rfl ?_
                        exact w_ret K rfl (hK _)
                      · refine w_go K 1 (c' := (212, [some (.ref 80), some (.int x10)], [.ref 80], mT s)) rfl ?_
                        refine w_callL K (E := f_Parser_closeLine s) (g := fun (x55 : mS) => (none, mT x55)) rfl (m_Parser_closeLine (len := len) (xs := xs) (d + 0) s) (fun x55 => ?_)
                        refine w_go K 1 (c' := (223, [some (.ref 80), some (.int x10)], [], mT x55)) rfl ?_
                        exact w_ret K rfl (hK _)
                    · refine w_go K 2 (c' := (220, [some (.ref 80), some (.int x10)], [.int 1, .ref 80], mT s)) rfl ?_
                      refine w_callLT K (E := f_Parser_fail (1 : Int32) s) (g := fun (x56 : mS) => (none, mT x56)) rfl (m_Parser_fail (len := len) (xs := xs) (d + 2) (1 : Int32) s) (fun x56 => ?_)
                      refine w_go K 0 (c' := (223, [some (.ref 80), some (.int x10)], [], mT x56)) rfl ?_
                      exact w_ret K rfl (hK _)
                · refine w_go K 3 (c' := (200, [some (.ref 80), some (.int x10)], [.int 16, .int (gI s 80 3)], mT s)) rfl ?_
                  refine w_ine K rfl (fun _ => ?_) (fun _ => ?_)
                  · refine w_go K 3 (c' := (208, [some (.ref 80), some (.int x10)], [.int 1, .int (gI s 80 8)], mT s)) rfl ?_
                    refine w_ieq K rfl (fun _ => ?_) (fun _ => ?_)
                    · refine w_go K 2 (c' := (220, [some (.ref 80), some (.int x10)], [.int 1, .ref 80], mT s)) rfl ?_
                      refine w_callLT K (E := f_Parser_fail (1 : Int32) s) (g := fun (x57 : mS) => (none, mT x57)) rfl (m_Parser_fail (len := len) (xs := xs) (d + 2) (1 : Int32) s) (fun x57 => ?_)
                      refine w_go K 0 (c' := (223, [some (.ref 80), some (.int x10)], [], mT x57)) rfl ?_
                      exact w_ret K rfl (hK _)
                    · refine w_go K 1 (c' := (212, [some (.ref 80), some (.int x10)], [.ref 80], mT s)) rfl ?_
                      refine w_callL K (E := f_Parser_closeLine s) (g := fun (x58 : mS) => (none, mT x58)) rfl (m_Parser_closeLine (len := len) (xs := xs) (d + 0) s) (fun x58 => ?_)
                      refine w_go K 1 (c' := (223, [some (.ref 80), some (.int x10)], [], mT x58)) rfl ?_
                      exact w_ret K rfl (hK _)
                  · refine w_go K 2 (c' := (220, [some (.ref 80), some (.int x10)], [.int 1, .ref 80], mT s)) rfl ?_
                    refine w_callLT K (E := f_Parser_fail (1 : Int32) s) (g := fun (x59 : mS) => (none, mT x59)) rfl (m_Parser_fail (len := len) (xs := xs) (d + 2) (1 : Int32) s) (fun x59 => ?_)
                    refine w_go K 0 (c' := (223, [some (.ref 80), some (.int x10)], [], mT x59)) rfl ?_
                    exact w_ret K rfl (hK _)
              · refine w_go K 1 (c' := (152, [some (.ref 80), some (.int x10)], [.ref 80], mT s)) rfl ?_
                refine w_callL K (E := f_Parser_closeBracket s) (g := fun (x60 : mS) => (none, mT x60)) rfl (m_Parser_closeBracket (len := len) (xs := xs) (d + 0) s) (fun x60 => ?_)
                refine w_go K 1 (c' := (223, [some (.ref 80), some (.int x10)], [], mT x60)) rfl ?_
                exact w_ret K rfl (hK _)
            · refine w_go K 3 (c' := (164, [some (.ref 80), some (.int x10)], [.int 12, .int (gI s 80 3)], mT s)) rfl ?_
              refine w_ine K rfl (fun _ => ?_) (fun _ => ?_)
              · refine w_go K 2 (c' := (171, [some (.ref 80), some (.int x10)], [.int (gI s 80 8)], mT s)) rfl ?_
                refine w_zne K rfl (fun _ => ?_) (fun _ => ?_)
                · refine w_go K 2 (c' := (176, [some (.ref 80), some (.int x10)], [.int 1, .ref 80], mT s)) rfl ?_
                  refine w_callL K (E := f_Parser_unwind (1 : Int32) s) (g := fun (x61 : mS) => (none, mT x61)) rfl (m_Parser_unwind (len := len) (xs := xs) (d + 1) (1 : Int32) s) (fun x61 => ?_)
                  refine w_go K 1 (c' := (180, [some (.ref 80), some (.int x10)], [.ref 80], mT x61)) rfl ?_
                  refine w_gP4 K rfl (fun r62 hr62 => ?_)
                  refine w_go K 0 (c' := (183, [some (.ref 80), some (.int x10)], [.ref r62], mT x61)) rfl ?_
                  refine w_callL K (E := f_Act_beginCondition r62 x61) (g := fun (x63 : mS) => (none, mT x63)) (st_c (b := 1) (st := [.ref r62]) (args := []) (rest := []) rfl rfl rfl hr62) (m_Act_beginCondition (len := len) (xs := xs) r62 hr62 (d + 2) x61) (fun x63 => ?_)
                  refine w_go K 4 (c' := (223, [some (.ref 80), some (.int x10)], [], mT (sI x63 80 7 3))) rfl ?_
                  exact w_ret K rfl (hK _)
                · refine w_go K 3 (c' := (200, [some (.ref 80), some (.int x10)], [.int 16, .int (gI s 80 3)], mT s)) rfl ?_
                  refine w_ine K rfl (fun _ => ?_) (fun _ => ?_)
                  · refine w_go K 3 (c' := (208, [some (.ref 80), some (.int x10)], [.int 1, .int (gI s 80 8)], mT s)) rfl ?_
                    refine w_ieq K rfl (fun _ => ?_) (fun _ => ?_)
                    · refine w_go K 2 (c' := (220, [some (.ref 80), some (.int x10)], [.int 1, .ref 80], mT s)) rfl ?_
                      refine w_callLT K (E := f_Parser_fail (1 : Int32) s) (g := fun (x64 : mS) => (none, mT x64)) rfl (m_Parser_fail (len := len) (xs := xs) (d + 2) (1 : Int32) s) (fun x64 => ?_)
                      refine w_go K 0 (c' := (223, [some (.ref 80), some (.int x10)], [], mT x64)) rfl ?_
                      exact w_ret K rfl (hK _)
                    · refine w_go K 1 (c' := (212, [some (.ref 80), some (.int x10)], [.ref 80], mT s)) rfl ?_
                      refine w_callL K (E := f_Parser_closeLine s) (g := fun (x65 : mS) => (none, mT x65)) rfl (m_Parser_closeLine (len := len) (xs := xs) (d + 0) s) (fun x65 => ?_)
                      refine w_go K 1 (c' := (223, [some (.ref 80), some (.int x10)], [], mT x65)) rfl ?_
                      exact w_ret K rfl (hK _)
                  · refine w_go K 2 (c' := (220, [some (.ref 80), some (.int x10)], [.int 1, .ref 80], mT s)) rfl ?_
                    refine w_callLT K (E := f_Parser_fail (1 : Int32) s) (g := fun (x66 : mS) => (none, mT x66)) rfl (m_Parser_fail (len := len) (xs := xs) (d + 2) (1 : Int32) s) (fun x66 => ?_)
                    refine w_go K 0 (c' := (223, [some (.ref 80), some (.int x10)], [], mT x66)) rfl ?_
                    exact w_ret K rfl (hK _)
              · refine w_go K 3 (c' := (200, [some (.ref 80), some (.int x10)], [.int 16, .int (gI s 80 3)], mT s)) rfl ?_
                refine w_ine K rfl (fun _ => ?_) (fun _ => ?_)
                · refine w_go K 3 (c' := (208, [some (.ref 80), some (.int x10)], [.int 1, .int (gI s 80 8)], mT s)) rfl ?_
                  refine w_ieq K rfl (fun _ => ?_) (fun _ => ?_)
                  · refine w_go K 2 (c' := (220, [some (.ref 80), some (.int x10)], [.int 1, .ref 80], mT s)) rfl ?_
                    refine w_callLT K (E := f_Parser_fail (1 : Int32) s) (g := fun (x67 : mS) => (none, mT x67)) rfl (m_Parser_fail (len := len) (xs := xs) (d + 2) (1 : Int32) s) (fun x67 => ?_)
                    refine w_go K 0 (c' := (223, [some (.ref 80), some (.int x10)], [], mT x67)) rfl ?_
                    exact w_ret K rfl (hK _)
                  · refine w_go K 1 (c' := (212, [some (.ref 80), some (.int x10)], [.ref 80], mT s)) rfl ?_
                    refine w_callL K (E := f_Parser_closeLine s) (g := fun (x68 : mS) => (none, mT x68)) rfl (m_Parser_closeLine (len := len) (xs := xs) (d + 0) s) (fun x68 => ?_)
                    refine w_go K 1 (c' := (223, [some (.ref 80), some (.int x10)], [], mT x68)) rfl ?_
                    exact w_ret K rfl (hK _)
                · refine w_go K 2 (c' := (220, [some (.ref 80), some (.int x10)], [.int 1, .ref 80], mT s)) rfl ?_
                  refine w_callLT K (E := f_Parser_fail (1 : Int32) s) (g := fun (x69 : mS) => (none, mT x69)) rfl (m_Parser_fail (len := len) (xs := xs) (d + 2) (1 : Int32) s) (fun x69 => ?_)
                  refine w_go K 0 (c' := (223, [some (.ref 80), some (.int x10)], [], mT x69)) rfl ?_
                  exact w_ret K rfl (hK _)
      · refine w_go K 3 (c' := (84, [some (.ref 80), some (.int x10)], [.int 25, .int (gI s 80 3)], mT s)) rfl ?_
        refine w_igt K rfl (fun _ => ?_) (fun _ => ?_)
        · refine w_go K 3 (c' := (114, [some (.ref 80), some (.int x10)], [.int 14, .int (gI s 80 3)], mT s)) rfl ?_
          refine w_ieq K rfl (fun _ => ?_) (fun _ => ?_)
          · refine w_go K 1 (c' := (127, [some (.ref 80), some (.int x10)], [.int x10], mT s)) rfl ?_
            refine w_zeq K rfl (fun _ => ?_) (fun _ => ?_)
            · refine w_go K 3 (c' := (144, [some (.ref 80), some (.int x10)], [.int 22, .int (gI s 80 3)], mT s)) rfl ?_
              refine w_ine K rfl (fun _ => ?_) (fun _ => ?_)
              · refine w_go K 1 (c' := (148, [some (.ref 80), some (.int x10)], [.int x10], mT s)) rfl ?_
                refine w_zeq K rfl (fun _ => ?_) (fun _ => ?_)
                · refine w_go K 3 (c' := (164, [some (.ref 80), some (.int x10)], [.int 12, .int (gI s 80 3)], mT s)) rfl ?_
                  refine w_ine K rfl (fun _ => ?_) (fun _ => ?_)
                  · refine w_go K 2 (c' := (171, [some (.ref 80), some (.int x10)], [.int (gI s 80 8)], mT s)) rfl ?_
                    refine w_zne K rfl (fun _ => ?_) (fun _ => ?_)
                    · refine w_go K 2 (c' := (176, [some (.ref 80), some (.int x10)], [.int 1, .ref 80], mT s)) rfl ?_
                      refine w_callL K (E := f_Parser_unwind (1 : Int32) s) (g := fun (x70 : mS) => (none, mT x70)) rfl (m_Parser_unwind (len := len) (xs := xs) (d + 1) (1 : Int32) s) (fun x70 => ?_)
                      refine w_go K 1 (c' := (180, [some (.ref 80), some (.int x10)], [.ref 80], mT x70)) rfl ?_
                      refine w_gP4 K rfl (fun r71 hr71 => ?_)
                      refine w_go K 0 (c' := (183, [some (.ref 80), some (.int x10)], [.ref r71], mT x70)) rfl ?_
                      refine w_callL K (E := f_Act_beginCondition r71 x70) (g := fun (x72 : mS) => (none, mT x72)) (st_c (b := 1) (st := [.ref r71]) (args := []) (rest := []) rfl rfl rfl hr71) (m_Act_beginCondition (len := len) (xs := xs) r71 hr71 (d + 2) x70) (fun x72 => ?_)
                      refine w_go K 4 (c' := (223, [some (.ref 80), some (.int x10)], [], mT (sI x72 80 7 3))) rfl ?_
                      exact w_ret K rfl (hK _)
                    · refine w_go K 3 (c' := (200, [some (.ref 80), some (.int x10)], [.int 16, .int (gI s 80 3)], mT s)) rfl ?_
                      refine w_ine K rfl (fun _ => ?_) (fun _ => ?_)
                      · refine w_go K 3 (c' := (208, [some (.ref 80), some (.int x10)], [.int 1, .int (gI s 80 8)], mT s)) rfl ?_
                        refine w_ieq K rfl (fun _ => ?_) (fun _ => ?_)
                        · refine w_go K 2 (c' := (220, [some (.ref 80), some (.int x10)], [.int 1, .ref 80], mT s)) rfl ?_
                          refine w_callLT K (E := f_Parser_fail (1 : Int32) s) (g := fun (x73 : mS) => (none, mT x73)) rfl (m_Parser_fail (len := len) (xs := xs) (d + 2) (1 : Int32) s) (fun x73 => ?_)
                          refine w_go K 0 (c' := (223, [some (.ref 80), some (.int x10)], [], mT x73)) rfl ?_
                          exact w_ret K rfl (hK _)
                        · refine w_go K 1 (c' := (212, [some (.ref 80), some (.int x10)], [.ref 80], mT s)) rfl ?_
                          refine w_callL K (E := f_Parser_closeLine s) (g := fun (x74 : mS) => (none, mT x74)) rfl (m_Parser_closeLine (len := len) (xs := xs) (d + 0) s) (fun x74 => ?_)
                          refine w_go K 1 (c' := (223, [some (.ref 80), some (.int x10)], [], mT x74)) rfl ?_
                          exact w_ret K rfl (hK _)
                      · refine w_go K 2 (c' := (220, [some (.ref 80), some (.int x10)], [.int 1, .ref 80], mT s)) rfl ?_
                        refine w_callLT K (E := f_Parser_fail (1 : Int32) s) (g := fun (x75 : mS) => (none, mT x75)) rfl (m_Parser_fail (len := len) (xs := xs) (d + 2) (1 : Int32) s) (fun x75 => ?_)
                        refine w_go K 0 (c' := (223, [some (.ref 80), some (.int x10)], [], mT x75)) rfl ?_
                        exact w_ret K rfl (hK _)
                  · refine w_go K 3 (c' := (200, [some (.ref 80), some (.int x10)], [.int 16, .int (gI s 80 3)], mT s)) rfl ?_
                    refine w_ine K rfl (fun _ => ?_) (fun _ => ?_)
                    · refine w_go K 3 (c' := (208, [some (.ref 80), some (.int x10)], [.int 1, .int (gI s 80 8)], mT s)) rfl ?_
                      refine w_ieq K rfl (fun _ => ?_) (fun _ => ?_)
                      · refine w_go K 2 (c' := (220, [some (.ref 80), some (.int x10)], [.int 1, .ref 80], mT s)) rfl ?_
                        refine w_callLT K (E := f_Parser_fail (1 : Int32) s) (g := fun (x76 : mS) => (none, mT x76)) rfl (m_Parser_fail (len := len) (xs := xs) (d + 2) (1 : Int32) s) (fun x76 => ?_)
                        refine w_go K 0 (c' := (223, [some (.ref 80), some (.int x10)], [], mT x76)) rfl ?_
                        exact w_ret K rfl (hK _)
                      · refine w_go K 1 (c' := (212, [some (.ref 80), some (.int x10)], [.ref 80], mT s)) rfl ?_
                        refine w_callL K (E := f_Parser_closeLine s) (g := fun (x77 : mS) => (none, mT x77)) rfl (m_Parser_closeLine (len := len) (xs := xs) (d + 0) s) (fun x77 => ?_)
                        refine w_go K 1 (c' := (223, [some (.ref 80), some (.int x10)], [], mT x77)) rfl ?_
                        exact w_ret K rfl (hK _)
                    · refine w_go K 2 (c' := (220, [some (.ref 80), some (.int x10)], [.int 1, .ref 80], mT s)) rfl ?_
                      refine w_callLT K (E := f_Parser_fail (1 : Int32) s) (g := fun (x78 : mS) => (none, mT x78)) rfl (m_Parser_fail (len := len) (xs := xs) (d + 2) (1 : Int32) s) (fun x78 => ?_)
                      refine w_go K 0 (c' := (223, [some (.ref 80), some (.int x10)], [], mT x78)) rfl ?_
                      exact w_ret K rfl (hK _)
                · refine w_go K 1 (c' := (152, [some (.ref 80), some (.int x10)], [.ref 80], mT s)) rfl ?_
                  refine w_callL K (E := f_Parser_closeBracket s) (g := fun (x79 : mS) => (none, mT x79)) rfl (m_Parser_closeBracket (len := len) (xs := xs) (d + 0) s) (fun x79 => ?_)
                  refine w_go K 1 (c' := (223, [some (.ref 80), some (.int x10)], [], mT x79)) rfl ?_
                  exact w_ret K rfl (hK _)
              · refine w_go K 3 (c' := (164, [some (.ref 80), some (.int x10)], [.int 12, .int (gI s 80 3)], mT s)) rfl ?_
                refine w_ine K rfl (fun _ => ?_) (fun _ => ?_)
                · refine w_go K 2 (c' := (171, [some (.ref 80), some (.int x10)], [.int (gI s 80 8)], mT s)) rfl ?_
                  refine w_zne K rfl (fun _ => ?_) (fun _ => ?_)
                  · refine w_go K 2 (c' := (176, [some (.ref 80), some (.int x10)], [.int 1, .ref 80], mT s)) rfl ?_
                    refine w_callL K (E := f_Parser_unwind (1 : Int32) s) (g := fun (x80 : mS) => (none, mT x80)) rfl (m_Parser_unwind (len := len) (xs := xs) (d + 1) (1 : Int32) s) (fun x80 => ?_)
                    refine w_go K 1 (c' := (180, [some (.ref 80), some (.int x10)], [.ref 80], mT x80)) rfl ?_
                    refine w_gP4 K rfl (fun r81 hr81 => ?_)
                    refine w_go K 0 (c' := (183, [some (.ref 80), some (.int x10)], [.ref r81], mT x80)) rfl ?_
                    refine w_callL K (E := f_Act_beginCondition r81 x80) (g := fun (x82 : mS) => (none, mT x82)) (st_c (b := 1) (st := [.ref r81]) (args := []) (rest := []) rfl rfl rfl hr81) (m_Act_beginCondition (len := len) (xs := xs) r81 hr81 (d + 2) x80) (fun x82 => ?_)
                    refine w_go K 4 (c' := (223, [some (.ref 80), some (.int x10)], [], mT (sI x82 80 7 3))) rfl ?_
                    exact w_ret K rfl (hK _)
                  · refine w_go K 3 (c' := (200, [some (.ref 80), some (.int x10)], [.int 16, .int (gI s 80 3)], mT s)) rfl ?_
                    refine w_ine K rfl (fun _ => ?_) (fun _ => ?_)
                    · refine w_go K 3 (c' := (208, [some (.ref 80), some (.int x10)], [.int 1, .int (gI s 80 8)], mT s)) rfl ?_
                      refine w_ieq K rfl (fun _ => ?_) (fun _ => ?_)
                      · refine w_go K 2 (c' := (220, [some (.ref 80), some (.int x10)], [.int 1, .ref 80], mT s)) rfl ?_
                        refine w_callLT K (E := f_Parser_fail (1 : Int32) s) (g := fun (x83 : mS) => (none, mT x83)) rfl (m_Parser_fail (len := len) (xs := xs) (d + 2) (1 : Int32) s) (fun x83 => ?_)
                        refine w_go K 0 (c' := (223, [some (.ref 80), some (.int x10)], [], mT x83)) rfl ?_
                        exact w_ret K rfl (hK _)
                      · refine w_go K 1 (c' := (212, [some (.ref 80), some (.int x10)], [.ref 80], mT s)) rfl ?_
                        refine w_callL K (E := f_Parser_closeLine s) (g := fun (x84 : mS) => (none, mT x84)) rfl (m_Parser_closeLine (len := len) (xs := xs) (d + 0) s) (fun x84 => ?_)
                        refine w_go K 1 (c' := (223, [some (.ref 80), some (.int x10)], [], mT x84)) rfl ?_
                        exact w_ret K rfl (hK _)
                    · refine w_go K 2 (c' := (220, [some (.ref 80), some (.int x10)], [.int 1, .ref 80], mT s)) rfl ?_
                      refine w_callLT K (E := f_Parser_fail (1 : Int32) s) (g := fun (x85 : mS) => (none, mT x85)) rfl (m_Parser_fail (len := len) (xs := xs) (d + 2) (1 : Int32) s) (fun x85 => ?_)
                      refine w_go K 0 (c' := (223, [some (.ref 80), some (.int x10)], [], mT x85)) rfl ?_
                      exact w_ret K rfl (hK _)
                · refine w_go K 3 (c' := (200, [some (.ref 80), some (.int x10)], [.int 16, .int (gI s 80 3)], mT s)) rfl ?_
                  refine w_ine K rfl (fun _ => ?_) (fun _ => ?_)
                  · refine w_go K 3 (c' := (208, [some (.ref 80), some (.int x10)], [.int 1, .int (gI s 80 8)], mT s)) rfl ?_
                    refine w_ieq K rfl (fun _ => ?_) (fun _ => ?_)
                    · refine w_go K 2 (c' := (220, [some (.ref 80), some (.int x10)], [.int 1, .ref 80], mT s)) rfl ?_
                      refine w_callLT K (E := f_Parser_fail (1 : Int32) s) (g := fun (x86 : mS) => (none, mT x86)) rfl (m_Parser_fail (len := len) (xs := xs) (d + 2) (1 : Int32) s) (fun x86 => ?_)
                      refine w_go K 0 (c' := (223, [some (.ref 80), some (.int x10)], [], mT x86)) rfl ?_
                      exact w_ret K rfl (hK _)
                    · refine w_go K 1 (c' := (212, [some (.ref 80), some (.int x10)], [.ref 80], mT s)) rfl ?_
                      refine w_callL K (E := f_Parser_closeLine s) (g := fun (x87 : mS) => (none, mT x87)) rfl (m_Parser_closeLine (len := len) (xs := xs) (d + 0) s) (fun x87 => ?_)
                      refine w_go K 1 (c' := (223, [some (.ref 80), some (.int x10)], [], mT x87)) rfl ?_
                      exact w_ret K rfl (hK _)
                  · refine w_go K 2 (c' := (220, [some (.ref 80), some (.int x10)], [.int 1, .ref 80], mT s)) rfl ?_
                    refine w_callLT K (E := f_Parser_fail (1 : Int32) s) (g := fun (x88 : mS) => (none, mT x88)) rfl (m_Parser_fail (len := len) (xs := xs) (d + 2) (1 : Int32) s) (fun x88 => ?_)
                    refine w_go K 0 (c' := (223, [some (.ref 80), some (.int x10)], [], mT x88)) rfl ?_
                    exact w_ret K rfl (hK _)
            · refine w_go K 2 (c' := (132, [some (.ref 80), some (.int x10)], [.int 3, .ref 80], mT s)) rfl ?_
              refine w_callL K (E := f_Parser_operate (3 : Int32) s) (g := fun (x89 : mS) => (none, mT x89)) rfl (m_Parser_operate (len := len) (xs := xs) (d + 0) (3 : Int32) s) (fun x89 => ?_)
              refine w_go K 1 (c' := (223, [some (.ref 80), some (.int x10)], [], mT x89)) rfl ?_
              exact w_ret K rfl (hK _)
          · refine w_go K 3 (c' := (123, [some (.ref 80), some (.int x10)], [.int 13, .int (gI s 80 3)], mT s)) rfl ?_
            refine w_ine K rfl (fun _ => ?_) (fun _ => ?_)
            · refine w_go K 1 (c' := (127, [some (.ref 80), some (.int x10)], [.int x10], mT s)) rfl ?_
              refine w_zeq K rfl (fun _ => ?_) (fun _ => ?_)
              · refine w_go K 3 (c' := (144, [some (.ref 80), some (.int x10)], [.int 22, .int (gI s 80 3)], mT s)) rfl ?_
                refine w_ine K rfl (fun _ => ?_) (fun _ => ?_)
                · refine w_go K 1 (c' := (148, [some (.ref 80), some (.int x10)], [.int x10], mT s)) rfl ?_
                  refine w_zeq K rfl (fun _ => ?_) (fun _ => ?_)
                  · refine w_go K 3 (c' := (164, [some (.ref 80), some (.int x10)], [.int 12, .int (gI s 80 3)], mT s)) rfl ?_
                    refine w_ine K rfl (fun _ => ?_) (fun _ => ?_)
                    · refine w_go K 2 (c' := (171, [some (.ref 80), some (.int x10)], [.int (gI s 80 8)], mT s)) rfl ?_
                      refine w_zne K rfl (fun _ => ?_) (fun _ => ?_)
                      · refine w_go K 2 (c' := (176, [some (.ref 80), some (.int x10)], [.int 1, .ref 80], mT s)) rfl ?_
                        refine w_callL K (E := f_Parser_unwind (1 : Int32) s) (g := fun (x90 : mS) => (none, mT x90)) rfl (m_Parser_unwind (len := len) (xs := xs) (d + 1) (1 : Int32) s) (fun x90 => ?_)
                        refine w_go K 1 (c' := (180, [some (.ref 80), some (.int x10)], [.ref 80], mT x90)) rfl ?_
                        refine w_gP4 K rfl (fun r91 hr91 => ?_)
                        refine w_go K 0 (c' := (183, [some (.ref 80), some (.int x10)], [.ref r91], mT x90)) rfl ?_
                        refine w_callL K (E := f_Act_beginCondition r91 x90) (g := fun (x92 : mS) => (none, mT x92)) (st_c (b := 1) (st := [.ref r91]) (args := []) (rest := []) rfl rfl rfl hr91) (m_Act_beginCondition (len := len) (xs := xs) r91 hr91 (d + 2) x90) (fun x92 => ?_)
                        refine w_go K 4 (c' := (223, [some (.ref 80), some (.int x10)], [], mT (sI x92 80 7 3))) rfl ?_
                        exact w_ret K rfl (hK _)
                      · refine w_go K 3 (c' := (200, [some (.ref 80), some (.int x10)], [.int 16, .int (gI s 80 3)], mT s)) rfl ?_
                        refine w_ine K rfl (fun _ => ?_) (fun _ => ?_)
                        · refine w_go K 3 (c' := (208, [some (.ref 80), some (.int x10)], [.int 1, .int (gI s 80 8)], mT s)) rfl ?_
                          refine w_ieq K rfl (fun _ => ?_) (fun _ => ?_)
                          · refine w_go K 2 (c' := (220, [some (.ref 80), some (.int x10)], [.int 1, .ref 80], mT s)) rfl ?_
                            refine w_callLT K (E := f_Parser_fail (1 : Int32) s) (g := fun (x93 : mS) => (none, mT x93)) rfl (m_Parser_fail (len := len) (xs := xs) (d + 2) (1 : Int32) s) (fun x93 => ?_)
                            refine w_go K 0 (c' := (223, [some (.ref 80), some (.int x10)], [], mT x93)) rfl ?_
                            exact w_ret K rfl (hK _)
                          · refine w_go K 1 (c' := (212, [some (.ref 80), some (.int x10)], [.ref 80], mT s)) rfl ?_
                            refine w_callL K (E := f_Parser_closeLine s) (g := fun (x94 : mS) => (none, mT x94)) rfl (m_Parser_closeLine (len := len) (xs := xs) (d + 0) s) (fun x94 => ?_)
                            refine w_go K 1 (c' := (223, [some (.ref 80), some (.int x10)], [], mT x94)) rfl ?_
                            exact w_ret K rfl (hK _)
                        · refine w_go K 2 (c' := (220, [some (.ref 80), some (.int x10)], [.int 1, .ref 80], mT s)) rfl ?_
                          refine w_callLT K (E := f_Parser_fail (1 : Int32) s) (g := fun (x95 : mS) => (none, mT x95)) rfl (m_Parser_fail (len := len) (xs := xs) (d + 2) (1 : Int32) s) (fun x95 => ?_)
                          refine w_go K 0 (c' := (223, [some (.ref 80), some (.int x10)], [], mT x95)) rfl ?_
                          exact w_ret K rfl (hK _)
                    · refine w_go K 3 (c' := (200, [some (.ref 80), some (.int x10)], [.int 16, .int (gI s 80 3)], mT s)) rfl ?_
                      refine w_ine K rfl (fun _ => ?_) (fun _ => ?_)
                      · refine w_go K 3 (c' := (208, [some (.ref 80), some (.int x10)], [.int 1, .int (gI s 80 8)], mT s)) rfl ?_
                        refine w_ieq K rfl (fun _ => ?_) (fun _ => ?_)
                        · refine w_go K 2 (c' := (220, [some (.ref 80), some (.int x10)], [.int 1, .ref 80], mT s)) rfl ?_
                          refine w_callLT K (E := f_Parser_fail (1 : Int32) s) (g := fun (x96 : mS) => (none, mT x96)) rfl (m_Parser_fail (len := len) (xs := xs) (d + 2) (1 : Int32) s) (fun x96 => ?_)
                          refine w_go K 0 (c' := (223, [some (.ref 80), some (.int x10)], [], mT x96)) rfl ?_
                          exact w_ret K rfl (hK _)
                        · refine w_go K 1 (c' := (212, [some (.ref 80), some (.int x10)], [.ref 80], mT s)) rfl ?_
                          refine w_callL K (E := f_Parser_closeLine s) (g := fun (x97 : mS) => (none, mT x97)) rfl (m_Parser_closeLine (len := len) (xs := xs) (d + 0) s) (fun x97 => ?_)
                          refine w_go K 1 (c' := (223, [some (.ref 80), some (.int x10)], [], mT x97)) rfl ?_
                          exact w_ret K rfl (hK _)
                      · refine w_go K 2 (c' := (220, [some (.ref 80), some (.int x10)], [.int 1, .ref 80], mT s)) rfl ?_
                        refine w_callLT K (E := f_Parser_fail (1 : Int32) s) (g := fun (x98 : mS) => (none, mT x98)) rfl (m_Parser_fail (len := len) (xs := xs) (d + 2) (1 : Int32) s) (fun x98 => ?_)
                        refine w_go K 0 (c' := (223, [some (.ref 80), some (.int x10)], [], mT x98)) rfl ?_
                        exact w_ret K rfl (hK _)
                  · refine w_go K 1 (c' := (152, [some (.ref 80), some (.int x10)], [.ref 80], mT s)) rfl ?_
                    refine w_callL K (E := f_Parser_closeBracket s) (g := fun (x99 : mS) => (none, mT x99)) rfl (m_Parser_closeBracket (len := len) (xs := xs) (d + 0) s) (fun x99 => ?_)
                    refine w_go K 1 (c' := (223, [some (.ref 80), some (.int x10)], [], mT x99)) rfl ?_
                    exact w_ret K rfl (hK _)
                · refine w_go K 3 (c' := (164, [some (.ref 80), some (.int x10)], [.int 12, .int (gI s 80 3)], mT s)) rfl ?_
                  refine w_ine K rfl (fun _ => ?_) (fun _ => ?_)
                  · refine w_go K 2 (c' := (171, [some (.ref 80), some (.int x10)], [.int (gI s 80 8)], mT s)) rfl ?_
                    refine w_zne K rfl (fun _ => ?_) (fun _ => ?_)
                    · refine w_go K 2 (c' := (176, [some (.ref 80), some (.int x10)], [.int 1, .ref 80], mT s)) rfl ?_
                      refine w_callL K (E := f_Parser_unwind (1 : Int32) s) (g := fun (x100 : mS) => (none, mT x100)) rfl (m_Parser_unwind (len := len) (xs := xs) (d + 1) (1 : Int32) s) (fun x100 => ?_)
                      refine w_go K 1 (c' := (180, [some (.ref 80), some (.int x10)], [.ref 80], mT x100)) rfl ?_
                      refine w_gP4 K rfl (fun r101 hr101 => ?_)
                      refine w_go K 0 (c' := (183, [some (.ref 80), some (.int x10)], [.ref r101], mT x100)) rfl ?_
                      refine w_callL K (E := f_Act_beginCondition r101 x100) (g := fun (x102 : mS) => (none, mT x102)) (st_c (b := 1) (st := [.ref r101]) (args := []) (rest := []) rfl rfl rfl hr101) (m_Act_beginCondition (len := len) (xs := xs) r101 hr101 (d + 2) x100) (fun x102 => ?_)
                      refine w_go K 4 (c' := (223, [some (.ref 80), some (.int x10)], [], mT (sI x102 80 7 3))) rfl ?_
                      exact w_ret K rfl (hK _)
                    · refine w_go K 3 (c' := (200, [some (.ref 80), some (.int x10)], [.int 16, .int (gI s 80 3)], mT s)) rfl ?_
                      refine w_ine K rfl (fun _ => ?_) (fun _ => ?_)
                      · refine w_go K 3 (c' := (208, [some (.ref 80), some (.int x10)], [.int 1, .int (gI s 80 8)], mT s)) rfl ?_
                        refine w_ieq K rfl (fun _ => ?_) (fun _ => ?_)
                        · refine w_go K 2 (c' := (220, [some (.ref 80), some (.int x10)], [.int 1, .ref 80], mT s)) rfl ?_
                          refine w_callLT K (E := f_Parser_fail (1 : Int32) s) (g := fun (x103 : mS) => (none, mT x103)) rfl (m_Parser_fail (len := len) (xs := xs) (d + 2) (1 : Int32) s) (fun x103 => ?_)
                          refine w_go K 0 (c' := (223, [some (.ref 80), some (.int x10)], [], mT x103)) rfl ?_
                          exact w_ret K rfl (hK _)
                        · refine w_go K 1 (c' := (212, [some (.ref 80), some (.int x10)], [.ref 80], mT s)) rfl ?_
                          refine w_callL K (E := f_Parser_closeLine s) (g := fun (x104 : mS) => (none, mT x104)) rfl (m_Parser_closeLine (len := len) (xs := xs) (d + 0) s) (fun x104 => ?_)
                          refine w_go K 1 (c' := (223, [some (.ref 80), some (.int x10)], [], mT x104)) rfl ?_
                          exact w_ret K rfl (hK _)
                      · refine w_go K 2 (c' := (220, [some (.ref 80), some (.int x10)], [.int 1, .ref 80], mT s)) rfl ?_
                        refine w_callLT K (E := f_Parser_fail (1 : Int32) s) (g := fun (x105 : mS) => (none, mT x105)) rfl (m_Parser_fail (len := len) (xs := xs) (d + 2) (1 : Int32) s) (fun x105 => ?_)
                        refine w_go K 0 (c' := (223, [some (.ref 80), some (.int x10)], [], mT x105)) rfl ?_
                        exact w_ret K rfl (hK _)
                  · refine w_go K 3 (c' := (200, [some (.ref 80), some (.int x10)], [.int 16, .int (gI s 80 3)], mT s)) rfl ?_
                    refine w_ine K rfl (fun _ => ?_) (fun _ => ?_)
                    · refine w_go K 3 (c' := (208, [some (.ref 80), some (.int x10)], [.int 1, .int (gI s 80 8)], mT s)) rfl ?_
                      refine w_ieq K rfl (fun _ => ?_) (fun _ => ?_)
                      · refine w_go K 2 (c' := (220, [some (.ref 80), some (.int x10)], [.int 1, .ref 80], mT s)) rfl ?_
                        refine w_callLT K (E := f_Parser_fail (1 : Int32) s) (g := fun (x106 : mS) => (none, mT x106)) rfl (m_Parser_fail (len := len) (xs := xs) (d + 2) (1 : Int32) s) (fun x106 => ?_)
                        refine w_go K 0 (c' := (223, [some (.ref 80), some (.int x10)], [], mT x106)) rfl ?_
                        exact w_ret K rfl (hK _)
                      · refine w_go K 1 (c' := (212, [some (.ref 80), some (.int x10)], [.ref 80], mT s)) rfl ?_
                        refine w_callL K (E := f_Parser_closeLine s) (g := fun (x107 : mS) => (none, mT x107)) rfl (m_Parser_closeLine (len := len) (xs := xs) (d + 0) s) (fun x107 => ?_)
                        refine w_go K 1 (c' := (223, [some (.ref 80), some (.int x10)], [], mT x107)) rfl ?_
                        exact w_ret K rfl (hK _)
                    · refine w_go K 2 (c' := (220, [some (.ref 80), some (.int x10)], [.int 1, .ref 80], mT s)) rfl ?_
                      refine w_callLT K (E := f_Parser_fail (1 : Int32) s) (g := fun (x108 : mS) => (none, mT x108)) rfl (m_Parser_fail (len := len) (xs := xs) (d + 2) (1 : Int32) s) (fun x108 => ?_)
                      refine w_go K 0 (c' := (223, [some (.ref 80), some (.int x10)], [], mT x108)) rfl ?_
                      exact w_ret K rfl (hK _)
              · refine w_go K 2 (c' := (132, [some (.ref 80), some (.int x10)], [.int 3, .ref 80], mT s)) rfl ?_
                refine w_callL K (E := f_Parser_operate (3 : Int32) s) (g := fun (x109 : mS) => (none, mT x109)) rfl (m_Parser_operate (len := len) (xs := xs) (d + 0) (3 : Int32) s) (fun x109 => ?_)
                refine w_go K 1 (c' := (223, [some (.ref 80), some (.int x10)], [], mT x109)) rfl ?_
                exact w_ret K rfl (hK _)
            · refine w_go K 3 (c' := (144, [some (.ref 80), some (.int x10)], [.int 22, .int (gI s 80 3)], mT s)) rfl ?_
              refine w_ine K rfl (fun _ => ?_) (fun _ => ?_)
              · refine w_go K 1 (c' := (148, [some (.ref 80), some (.int x10)], [.int x10], mT s)) rfl ?_
                refine w_zeq K rfl (fun _ => ?_) (fun _ => ?_)
                · refine w_go K 3 (c' := (164, [some (.ref 80), some (.int x10)], [.int 12, .int (gI s 80 3)], mT s)) rfl ?_
                  refine w_ine K rfl (fun _ => ?_) (fun _ => ?_)
                  · refine w_go K 2 (c' := (171, [some (.ref 80), some (.int x10)], [.int (gI s 80 8)], mT s)) rfl ?_
                    refine w_zne K rfl (fun _ => ?_) (fun _ => ?_)
                    · refine w_go K 2 (c' := (176, [some (.ref 80), some (.int x10)], [.int 1, .ref 80], mT s)) rfl ?_
                      refine w_callL K (E := f_Parser_unwind (1 : Int32) s) (g := fun (x110 : mS) => (none, mT x110)) rfl (m_Parser_unwind (len := len) (xs := xs) (d + 1) (1 : Int32) s) (fun x110 => ?_)
                      refine w_go K 1 (c' := (180, [some (.ref 80), some (.int x10)], [.ref 80], mT x110)) rfl ?_
                      refine w_gP4 K rfl (fun r111 hr111 => ?_)
                      refine w_go K 0 (c' := (183, [some (.ref 80), some (.int x10)], [.ref r111], mT x110)) rfl ?_
                      refine w_callL K (E := f_Act_beginCondition r111 x110) (g := fun (x112 : mS) => (none, mT x112)) (st_c (b := 1) (st := [.ref r111]) (args := []) (rest := []) rfl rfl rfl hr111) (m_Act_beginCondition (len := len) (xs := xs) r111 hr111 (d + 2) x110) (fun x112 => ?_)
                      refine w_go K 4 (c' := (223, [some (.ref 80), some (.int x10)], [], mT (sI x112 80 7 3))) rfl ?_
                      exact w_ret K rfl (hK _)
                    · refine w_go K 3 (c' := (200, [some (.ref 80), some (.int x10)], [.int 16, .int (gI s 80 3)], mT s)) rfl ?_
                      refine w_ine K rfl (fun _ => ?_) (fun _ => ?_)
                      · refine w_go K 3 (c' := (208, [some (.ref 80), some (.int x10)], [.int 1, .int (gI s 80 8)], mT s)) rfl ?_
                        refine w_ieq K rfl (fun _ => ?_) (fun _ => ?_)
                        · refine w_go K 2 (c' := (220, [some (.ref 80), some (.int x10)], [.int 1, .ref 80], mT s)) rfl ?_
                          refine w_callLT K (E := f_Parser_fail (1 : Int32) s) (g := fun (x113 : mS) => (none, mT x113)) rfl (m_Parser_fail (len := len) (xs := xs) (d + 2) (1 : Int32) s) (fun x113 => ?_)
                          refine w_go K 0 (c' := (223, [some (.ref 80), some (.int x10)], [], mT x113)) rfl ?_
                          exact w_ret K rfl (hK _)
                        · refine w_go K 1 (c' := (212, [some (.ref 80), some (.int x10)], [.ref 80], mT s)) rfl ?_
                          refine w_callL K (E := f_Parser_closeLine s) (g := fun (x114 : mS) => (none, mT x114)) rfl (m_Parser_closeLine (len := len) (xs := xs) (d + 0) s) (fun x114 => ?_)
                          refine w_go K 1 (c' := (223, [some (.ref 80), some (.int x10)], [], mT x114)) rfl ?_
                          exact w_ret K rfl (hK _)
                      · refine w_go K 2 (c' := (220, [some (.ref 80), some (.int x10)], [.int 1, .ref 80], mT s)) rfl ?_
                        refine w_callLT K (E := f_Parser_fail (1 : Int32) s) (g := fun (x115 : mS) => (none, mT x115)) rfl (m_Parser_fail (len := len) (xs := xs) (d + 2) (1 : Int32) s) (fun x115 => ?_)
                        refine w_go K 0 (c' := (223, [some (.ref 80), some (.int x10)], [], mT x115)) rfl ?_
                        exact w_ret K rfl (hK _)
                  · refine w_go K 3 (c' := (200, [some (.ref 80), some (.int x10)], [.int 16, .int (gI s 80 3)], mT s)) rfl ?_
                    refine w_ine K rfl (fun _ => ?_) (fun _ => ?_)
                    · refine w_go K 3 (c' := (208, [some (.ref 80), some (.int x10)], [.int 1, .int (gI s 80 8)], mT s)) rfl ?_
                      refine w_ieq K rfl (fun _ => ?_) (fun _ => ?_)
                      · refine w_go K 2 (c' := (220, [some (.ref 80), some (.int x10)], [.int 1, .ref 80], mT s)) rfl ?_
                        refine w_callLT K (E := f_Parser_fail (1 : Int32) s) (g := fun (x116 : mS) => (none, mT x116)) rfl (m_Parser_fail (len := len) (xs := xs) (d + 2) (1 : Int32) s) (fun x116 => ?_)
                        refine w_go K 0 (c' := (223, [some (.ref 80), some (.int x10)], [], mT x116)) rfl ?_
                        exact w_ret K rfl (hK _)
                      · refine w_go K 1 (c' := (212, [some (.ref 80), some (.int x10)], [.ref 80], mT s)) rfl ?_
                        refine w_callL K (E := f_Parser_closeLine s) (g := fun (x117 : mS) => (none, mT x117)) rfl (m_Parser_closeLine (len := len) (xs := xs) (d + 0) s) (fun x117 => ?_)
                        refine w_go K 1 (c' := (223, [some (.ref 80), some (.int x10)], [], mT x117)) rfl ?_
                        exact w_ret K rfl (hK _)
                    · refine w_go K 2 (c' := (220, [some (.ref 80), some (.int x10)], [.int 1, .ref 80], mT s)) rfl ?_
                      refine w_callLT K (E := f_Parser_fail (1 : Int32) s) (g := fun (x118 : mS) => (none, mT x118)) rfl (m_Parser_fail (len := len) (xs := xs) (d + 2) (1 : Int32) s) (fun x118 => ?_)
                      refine w_go K 0 (c' := (223, [some (.ref 80), some (.int x10)], [], mT x118)) rfl ?_
                      exact w_ret K rfl (hK _)
                · refine w_go K 1 (c' := (152, [some (.ref 80), some (.int x10)], [.ref 80], mT s)) rfl ?_
                  refine w_callL K (E := f_Parser_closeBracket s) (g := fun (x119 : mS) => (none, mT x119)) rfl (m_Parser_closeBracket (len := len) (xs := xs) (d + 0) s) (fun x119 => ?_)
                  refine w_go K 1 (c' := (223, [some (.ref 80), some (.int x10)], [], mT x119)) rfl ?_
                  exact w_ret K rfl (hK _)
              · refine w_go K 3 (c' := (164, [some (.ref 80), some (.int x10)], [.int 12, .int (gI s 80 3)], mT s)) rfl ?_
                refine w_ine K rfl (fun _ => ?_) (fun _ => ?_)
                · refine w_go K 2 (c' := (171, [some (.ref 80), some (.int x10)], [.int (gI s 80 8)], mT s)) rfl ?_
                  refine w_zne K rfl (fun _ => ?_) (fun _ => ?_)
                  · refine w_go K 2 (c' := (176, [some (.ref 80), some (.int x10)], [.int 1, .ref 80], mT s)) rfl ?_
                    refine w_callL K (E := f_Parser_unwind (1 : Int32) s) (g := fun (x120 : mS) => (none, mT x120)) rfl (m_Parser_unwind (len := len) (xs := xs) (d + 1) (1 : Int32) s) (fun x120 => ?_)
                    refine w_go K 1 (c' := (180, [some (.ref 80), some (.int x10)], [.ref 80], mT x120)) rfl ?_
                    refine w_gP4 K rfl (fun r121 hr121 => ?_)
                    refine w_go K 0 (c' := (183, [some (.ref 80), some (.int x10)], [.ref r121], mT x120)) rfl ?_
                    refine w_callL K (E := f_Act_beginCondition r121 x120) (g := fun (x122 : mS) => (none, mT x122)) (st_c (b := 1) (st := [.ref r121]) (args := []) (rest := []) rfl rfl rfl hr121) (m_Act_beginCondition (len := len) (xs := xs) r121 hr121 (d + 2) x120) (fun x122 => ?_)
                    refine w_go K 4 (c' := (223, [some (.ref 80), some (.int x10)], [], mT (sI x122 80 7 3))) rfl ?_
                    exact w_ret K rfl (hK _)
                  · refine w_go K 3 (c' := (200, [some (.ref 80), some (.int x10)], [.int 16, .int (gI s 80 3)], mT s)) rfl ?_
                    refine w_ine K rfl (fun _ => ?_) (fun _ => ?_)
                    · refine w_go K 3 (c' := (208, [some (.ref 80), some (.int x10)], [.int 1, .int (gI s 80 8)], mT s)) rfl ?_
                      refine w_ieq K rfl (fun _ => ?_) (fun _ => ?_)
                      · refine w_go K 2 (c' := (220, [some (.ref 80), some (.int x10)], [.int 1, .ref 80], mT s)) rfl ?_
                        refine w_callLT K (E := f_Parser_fail (1 : Int32) s) (g := fun (x123 : mS) => (none, mT x123)) rfl (m_Parser_fail (len := len) (xs := xs) (d + 2) (1 : Int32) s) (fun x123 => ?_)
                        refine w_go K 0 (c' := (223, [some (.ref 80), some (.int x10)], [], mT x123)) rfl ?_
                        exact w_ret K rfl (hK _)
                      · refine w_go K 1 (c' := (212, [some (.ref 80), some (.int x10)], [.ref 80], mT s)) rfl ?_
                        refine w_callL K (E := f_Parser_closeLine s) (g := fun (x124 : mS) => (none, mT x124)) rfl (m_Parser_closeLine (len := len) (xs := xs) (d + 0) s) (fun x124 => ?_)
                        refine w_go K 1 (c' := (223, [some (.ref 80), some (.int x10)], [], mT x124)) rfl ?_
                        exact w_ret K rfl (hK _)
                    · refine w_go K 2 (c' := (220, [some (.ref 80), some (.int x10)], [.int 1, .ref 80], mT s)) rfl ?_
                      refine w_callLT K (E := f_Parser_fail (1 : Int32) s) (g := fun (x125 : mS) => (none, mT x125)) rfl (m_Parser_fail (len := len) (xs := xs) (d + 2) (1 : Int32) s) (fun x125 => ?_)
                      refine w_go K 0 (c' := (223, [some (.ref 80), some (.int x10)], [], mT x125)) rfl ?_
                      exact w_ret K rfl (hK _)
                · refine w_go K 3 (c' := (200, [some (.ref 80), some (.int x10)], [.int 16, .int (gI s 80 3)], mT s)) rfl ?_
                  refine w_ine K rfl (fun _ => ?_) (fun _ => ?_)
                  · refine w_go K 3 (c' := (208, [some (.ref 80), some (.int x10)], [.int 1, .int (gI s 80 8)], mT s)) rfl ?_
                    refine w_ieq K rfl (fun _ => ?_) (fun _ => ?_)
                    · refine w_go K 2 (c' := (220, [some (.ref 80), some (.int x10)], [.int 1, .ref 80], mT s)) rfl ?_
                      refine w_callLT K (E := f_Parser_fail (1 : Int32) s) (g := fun (x126 : mS) => (none, mT x126)) rfl (m_Parser_fail (len := len) (xs := xs) (d + 2) (1 : Int32) s) (fun x126 => ?_)
                      refine w_go K 0 (c' := (223, [some (.ref 80), some (.int x10)], [], mT x126)) rfl ?_
                      exact w_ret K rfl (hK _)
                    · refine w_go K 1 (c' := (212, [some (.ref 80), some (.int x10)], [.ref 80], mT s)) rfl ?_
                      refine w_callL K (E := f_Parser_closeLine s) (g := fun (x127 : mS) => (none, mT x127)) rfl (m_Parser_closeLine (len := len) (xs := xs) (d + 0) s) (fun x127 => ?_)
                      refine w_go K 1 (c' := (223, [some (.ref 80), some (.int x10)], [], mT x127)) rfl ?_
                      exact w_ret K rfl (hK _)
                  · refine w_go K 2 (c' := (220, [some (.ref 80), some (.int x10)], [.int 1, .ref 80], mT s)) rfl ?_
                    refine w_callLT K (E := f_Parser_fail (1 : Int32) s) (g := fun (x128 : mS) => (none, mT x128)) rfl (m_Parser_fail (len := len) (xs := xs) (d + 2) (1 : Int32) s) (fun x128 => ?_)
                    refine w_go K 0 (c' := (223, [some (.ref 80), some (.int x10)], [], mT x128)) rfl ?_
                    exact w_ret K rfl (hK _)
        · refine w_go K 3 (c' := (92, [some (.ref 80), some (.int x10)], [.int 1, .int (gI s 80 8)], mT s)) rfl ?_
          refine w_ine K rfl (fun _ => ?_) (fun _ => ?_)
          · refine w_go K 2 (c' := (97, [some (.ref 80), some (.int x10)], [.int 1, .ref 80], mT s)) rfl ?_
            refine w_callL K (E := f_Parser_operate (1 : Int32) s) (g := fun (x129 : mS) => (none, mT x129)) rfl (m_Parser_operate (len := len) (xs := xs) (d + 0) (1 : Int32) s) (fun x129 => ?_)
            refine w_go K 4 (c' := (223, [some (.ref 80), some (.int x10)], [], mT (sI x129 80 8 2))) rfl ?_
            exact w_ret K rfl (hK _)
          · refine w_go K 3 (c' := (114, [some (.ref 80), some (.int x10)], [.int 14, .int (gI s 80 3)], mT s)) rfl ?_
            refine w_ieq K rfl (fun _ => ?_) (fun _ => ?_)
            · refine w_go K 1 (c' := (127, [some (.ref 80), some (.int x10)], [.int x10], mT s)) rfl ?_
              refine w_zeq K rfl (fun _ => ?_) (fun _ => ?_)
              · refine w_go K 3 (c' := (144, [some (.ref 80), some (.int x10)], [.int 22, .int (gI s 80 3)], mT s)) rfl ?_
                refine w_ine K rfl (fun _ => ?_) (fun _ => ?_)
                · refine w_go K 1 (c' := (148, [some (.ref 80), some (.int x10)], [.int x10], mT s)) rfl ?_
                  refine w_zeq K rfl (fun _ => ?_) (fun _ => ?_)
                  · refine w_go K 3 (c' := (164, [some (.ref 80), some (.int x10)], [.int 12, .int (gI s 80 3)], mT s)) rfl ?_
                    refine w_ine K rfl (fun _ => ?_) (fun _ => ?_)
                    · refine w_go K 2 (c' := (171, [some (.ref 80), some (.int x10)], [.int (gI s 80 8)], mT s)) rfl ?_
                      refine w_zne K rfl (fun _ => ?_) (fun _ => ?_)
                      · refine w_go K 2 (c' := (176, [some (.ref 80), some (.int x10)], [.int 1, .ref 80], mT s)) rfl ?_
                        refine w_callL K (E := f_Parser_unwind (1 : Int32) s) (g := fun (x130 : mS) => (none, mT x130)) rfl (m_Parser_unwind (len := len) (xs := xs) (d + 1) (1 : Int32) s) (fun x130 => ?_)
                        refine w_go K 1 (c' := (180, [some (.ref 80), some (.int x10)], [.ref 80], mT x130)) rfl ?_
                        refine w_gP4 K rfl (fun r131 hr131 => ?_)
                        refine w_go K 0 (c' := (183, [some (.ref 80), some (.int x10)], [.ref r131], mT x130)) rfl ?_
                        refine w_callL K (E := f_Act_beginCondition r131 x130) (g := fun (x132 : mS) => (none, mT x132)) (st_c (b := 1) (st := [.ref r131]) (args := []) (rest := []) rfl rfl rfl hr131) (m_Act_beginCondition (len := len) (xs := xs) r131 hr131 (d + 2) x130) (fun x132 => ?_)
                        refine w_go K 4 (c' := (223, [some (.ref 80), some (.int x10)], [], mT (sI x132 80 7 3))) rfl ?_
                        exact w_ret K rfl (hK _)
                      · refine w_go K 3 (c' := (200, [some (.ref 80), some (.int x10)], [.int 16, .int (gI s 80 3)], mT s)) rfl ?_
                        refine w_ine K rfl (fun _ => ?_) (fun _ => ?_)
                        · refine w_go K 3 (c' := (208, [some (.ref 80), some (.int x10)], [.int 1, .int (gI s 80 8)], mT s)) rfl ?_
                          refine w_ieq K rfl (fun _ => ?_) (fun _ => ?_)
                          · refine w_go K 2 (c' := (220, [some (.ref 80), some (.int x10)], [.int 1, .ref 80], mT s)) rfl ?_
                            refine w_callLT K (E := f_Parser_fail (1 : Int32) s) (g := fun (x133 : mS) => (none, mT x133)) rfl (m_Parser_fail (len := len) (xs := xs) (d + 2) (1 : Int32) s) (fun x133 => ?_)
                            refine w_go K 0 (c' := (223, [some (.ref 80), some (.int x10)], [], mT x133)) rfl ?_
                            exact w_ret K rfl (hK _)
                          · refine w_go K 1 (c' := (212, [some (.ref 80), some (.int x10)], [.ref 80], mT s)) rfl ?_
                            refine w_callL K (E := f_Parser_closeLine s) (g := fun (x134 : mS) => (none, mT x134)) rfl (m_Parser_closeLine (len := len) (xs := xs) (d + 0) s) (fun x134 => ?_)
                            refine w_go K 1 (c' := (223, [some (.ref 80), some (.int x10)], [], mT x134)) rfl ?_
                            exact w_ret K rfl (hK _)
                        · refine w_go K 2 (c' := (220, [some (.ref 80), some (.int x10)], [.int 1, .ref 80], mT s)) rfl ?_
                          refine w_callLT K (E := f_Parser_fail (1 : Int32) s) (g := fun (x135 : mS) => (none, mT x135)) rfl (m_Parser_fail (len := len) (xs := xs) (d + 2) (1 : Int32) s) (fun x135 => ?_)
                          refine w_go K 0 (c' := (223, [some (.ref 80), some (.int x10)], [], mT x135)) rfl ?_
                          exact w_ret K rfl (hK _)
                    · refine w_go K 3 (c' := (200, [some (.ref 80), some (.int x10)], [.int 16, .int (gI s 80 3)], mT s)) rfl ?_
                      refine w_ine K rfl (fun _ => ?_) (fun _ => ?_)
                      · refine w_go K 3 (c' := (208, [some (.ref 80), some (.int x10)], [.int 1, .int (gI s 80 8)], mT s)) rfl ?_
                        refine w_ieq K rfl (fun _ => ?_) (fun _ => ?_)
                        · refine w_go K 2 (c' := (220, [some (.ref 80), some (.int x10)], [.int 1, .ref 80], mT s)) rfl ?_
                          refine w_callLT K (E := f_Parser_fail (1 : Int32) s) (g := fun (x136 : mS) => (none, mT x136)) rfl (m_Parser_fail (len := len) (xs := xs) (d + 2) (1 : Int32) s) (fun x136 => ?_)
                          refine w_go K 0 (c' := (223, [some (.ref 80), some (.int x10)], [], mT x136)) rfl ?_
                          exact w_ret K rfl (hK _)
                        · refine w_go K 1 (c' := (212, [some (.ref 80), some (.int x10)], [.ref 80], mT s)) rfl ?_
                          refine w_callL K (E := f_Parser_closeLine s) (g := fun (x137 : mS) => (none, mT x137)) rfl (m_Parser_closeLine (len := len) (xs := xs) (d + 0) s) (fun x137 => ?_)
                          refine w_go K 1 (c' := (223, [some (.ref 80), some (.int x10)], [], mT x137)) rfl ?_
                          exact w_ret K rfl (hK _)
                      · refine w_go K 2 (c' := (220, [some (.ref 80), some (.int x10)], [.int 1, .ref 80], mT s)) rfl ?_
                        refine w_callLT K (E := f_Parser_fail (1 : Int32) s) (g := fun (x138 : mS) => (none, mT x138)) rfl (m_Parser_fail (len := len) (xs := xs) (d + 2) (1 : Int32) s) (fun x138 => ?_)
                        refine w_go K 0 (c' := (223, [some (.ref 80), some (.int x10)], [], mT x138)) rfl ?_
                        exact w_ret K rfl (hK _)
                  · refine w_go K 1 (c' := (152, [some (.ref 80), some (.int x10)], [.ref 80], mT s)) rfl ?_
                    refine w_callL K (E := f_Parser_closeBracket s) (g := fun (x139 : mS) => (none, mT x139)) rfl (m_Parser_closeBracket (len := len) (xs := xs) (d + 0) s) (fun x139 => ?_)
                    refine w_go K 1 (c' := (223, [some (.ref 80), some (.int x10)], [], mT x139)) rfl ?_
                    exact w_ret K rfl (hK _)
                · refine w_go K 3 (c' := (164, [some (.ref 80), some (.int x10)], [.int 12, .int (gI s 80 3)], mT s)) rfl ?_
                  refine w_ine K rfl (fun _ => ?_) (fun _ => ?_)
                  · refine w_go K 2 (c' := (171, [some (.ref 80), some (.int x10)], [.int (gI s 80 8)], mT s)) rfl ?_
                    refine w_zne K rfl (fun _ => ?_) (fun _ => ?_)
                    · refine w_go K 2 (c' := (176, [some (.ref 80), some (.int x10)], [.int 1, .ref 80], mT s)) rfl ?_
                      refine w_callL K (E := f_Parser_unwind (1 : Int32) s) (g := fun (x140 : mS) => (none, mT x140)) rfl (m_Parser_unwind (len := len) (xs := xs) (d + 1) (1 : Int32) s) (fun x140 => ?_)
                      refine w_go K 1 (c' := (180, [some (.ref 80), some (.int x10)], [.ref 80], mT x140)) rfl ?_
                      refine w_gP4 K rfl (fun r141 hr141 => ?_)
                      refine w_go K 0 (c' := (183, [some (.ref 80), some (.int x10)], [.ref r141], mT x140)) rfl ?_
                      refine w_callL K (E := f_Act_beginCondition r141 x140) (g := fun (x142 : mS) => (none, mT x142)) (st_c (b := 1) (st := [.ref r141]) (args := []) (rest := []) rfl rfl rfl hr141) (m_Act_beginCondition (len := len) (xs := xs) r141 hr141 (d + 2) x140) (fun x142 => ?_)
                      refine w_go K 4 (c' := (223, [some (.ref 80), some (.int x10)], [], mT (sI x142 80 7 3))) rfl ?_
                      exact w_ret K rfl (hK _)
                    · refine w_go K 3 (c' := (200, [some (.ref 80), some (.int x10)], [.int 16, .int (gI s 80 3)], mT s)) rfl ?_
                      refine w_ine K rfl (fun _ => ?_) (fun _ => ?_)
                      · refine w_go K 3 (c' := (208, [some (.ref 80), some (.int x10)], [.int 1, .int (gI s 80 8)], mT s)) rfl ?_
                        refine w_ieq K rfl (fun _ => ?_) (fun _ => ?_)
                        · refine w_go K 2 (c' := (220, [some (.ref 80), some (.int x10)], [.int 1, .ref 80], mT s)) rfl ?_
                          refine w_callLT K (E := f_Parser_fail (1 : Int32) s) (g := fun (x143 : mS) => (none, mT x143)) rfl (m_Parser_fail (len := len) (xs := xs) (d + 2) (1 : Int32) s) (fun x143 => ?_)
                          refine w_go K 0 (c' := (223, [some (.ref 80), some (.int x10)], [], mT x143)) rfl ?_
                          exact w_ret K rfl (hK _)
                        · refine w_go K 1 (c' := (212, [some (.ref 80), some (.int x10)], [.ref 80], mT s)) rfl ?_
                          refine w_callL K (E := f_Parser_closeLine s) (g := fun (x144 : mS) => (none, mT x144)) rfl (m_Parser_closeLine (len := len) (xs := xs) (d + 0) s) (fun x144 => ?_)
                          refine w_go K 1 (c' := (223, [some (.ref 80), some (.int x10)], [], mT x144)) rfl ?_
                          exact w_ret K rfl (hK _)
                      · refine w_go K 2 (c' := (220, [some (.ref 80), some (.int x10)], [.int 1, .ref 80], mT s)) rfl ?_
                        refine w_callLT K (E := f_Parser_fail (1 : Int32) s) (g := fun (x145 : mS) => (none, mT x145)) rfl (m_Parser_fail (len := len) (xs := xs) (d + 2) (1 : Int32) s) (fun x145 => ?_)
                        refine w_go K 0 (c' := (223, [some (.ref 80), some (.int x10)], [], mT x145)) rfl ?_
                        exact w_ret K rfl (hK _)
                  · refine w_go K 3 (c' := (200, [some (.ref 80), some (.int x10)], [.int 16, .int (gI s 80 3)], mT s)) rfl ?_
                    refine w_ine K rfl (fun _ => ?_) (fun _ => ?_)
                    · refine w_go K 3 (c' := (208, [some (.ref 80), some (.int x10)], [.int 1, .int (gI s 80 8)], mT s)) rfl ?_
                      refine w_ieq K rfl (fun _ => ?_) (fun _ => ?_)
                      · refine w_go K 2 (c' := (220, [some (.ref 80), some (.int x10)], [.int 1, .ref 80], mT s)) rfl ?_
                        refine w_callLT K (E := f_Parser_fail (1 : Int32) s) (g := fun (x146 : mS) => (none, mT x146)) rfl (m_Parser_fail (len := len) (xs := xs) (d + 2) (1 : Int32) s) (fun x146 => ?_)
                        refine w_go K 0 (c' := (223, [some (.ref 80), some (.int x10)], [], mT x146)) rfl ?_
                        exact w_ret K rfl (hK _)
                      · refine w_go K 1 (c' := (212, [some (.ref 80), some (.int x10)], [.ref 80], mT s)) rfl ?_
                        refine w_callL K (E := f_Parser_closeLine s) (g := fun (x147 : mS) => (none, mT x147)) rfl (m_Parser_closeLine (len := len) (xs := xs) (d + 0) s) (fun x147 => ?_)
                        refine w_go K 1 (c' := (223, [some (.ref 80), some (.int x10)], [], mT x147)) rfl ?_
                        exact w_ret K rfl (hK _)
                    · refine w_go K 2 (c' := (220, [some (.ref 80), some (.int x10)], [.int 1, .ref 80], mT s)) rfl ?_
                      refine w_callLT K (E := f_Parser_fail (1 : Int32) s) (g := fun (x148 : mS) => (none, mT x148)) rfl (m_Parser_fail (len := len) (xs := xs) (d + 2) (1 : Int32) s) (fun x148 => ?_)
                      refine w_go K 0 (c' := (223, [some (.ref 80), some (.int x10)], [], mT x148)) rfl ?_
                      exact w_ret K rfl (hK _)
              · refine w_go K 2 (c' := (132, [some (.ref 80), some (.int x10)], [.int 3, .ref 80], mT s)) rfl ?_
                refine w_callL K (E := f_Parser_operate (3 : Int32) s) (g := fun (x149 : mS) => (none, mT x149)) rfl (m_Parser_operate (len := len) (xs := xs) (d + 0) (3 : Int32) s) (fun x149 => ?_)
                refine w_go K 1 (c' := (223, [some (.ref 80), some (.int x10)], [], mT x149)) rfl ?_
                exact w_ret K rfl (hK _)
            · refine w_go K 3 (c' := (123, [some (.ref 80), some (.int x10)], [.int 13, .int (gI s 80 3)], mT s)) rfl ?_
              refine w_ine K rfl (fun _ => ?_) (fun _ => ?_)
              · refine w_go K 1 (c' := (127, [some (.ref 80), some (.int x10)], [.int x10], mT s)) rfl ?_
                refine w_zeq K rfl (fun _ => ?_) (fun _ => ?_)
                · refine w_go K 3 (c' := (144, [some (.ref 80), some (.int x10)], [.int 22, .int (gI s 80 3)], mT s)) rfl ?_
                  refine w_ine K rfl (fun _ => ?_) (fun _ => ?_)
                  · refine w_go K 1 (c' := (148, [some (.ref 80), some (.int x10)], [.int x10], mT s)) rfl ?_
                    refine w_zeq K rfl (fun _ => ?_) (fun _ => ?_)
                    · refine w_go K 3 (c' := (164, [some (.ref 80), some (.int x10)], [.int 12, .int (gI s 80 3)], mT s)) rfl ?_
                      refine w_ine K rfl (fun _ => ?_) (fun _ => ?_)
                      · refine w_go K 2 (c' := (171, [some (.ref 80), some (.int x10)], [.int (gI s 80 8)], mT s)) rfl ?_
                        refine w_zne K rfl (fun _ => ?_) (fun _ => ?_)
                        · refine w_go K 2 (c' := (176, [some (.ref 80), some (.int x10)], [.int 1, .ref 80], mT s)) rfl ?_
                          refine w_callL K (E := f_Parser_unwind (1 : Int32) s) (g := fun (x150 : mS) => (none, mT x150)) rfl (m_Parser_unwind (len := len) (xs := xs) (d + 1) (1 : Int32) s) (fun x150 => ?_)
                          refine w_go K 1 (c' := (180, [some (.ref 80), some (.int x10)], [.ref 80], mT x150)) rfl ?_
                          refine w_gP4 K rfl (fun r151 hr151 => ?_)
                          refine w_go K 0 (c' := (183, [some (.ref 80), some (.int x10)], [.ref r151], mT x150)) rfl ?_
                          refine w_callL K (E := f_Act_beginCondition r151 x150) (g := fun (x152 : mS) => (none, mT x152)) (st_c (b := 1) (st := [.ref r151]) (args := []) (rest := []) rfl rfl rfl hr151) (m_Act_beginCondition (len := len) (xs := xs) r151 hr151 (d + 2) x150) (fun x152 => ?_)
                          refine w_go K 4 (c' := (223, [some (.ref 80), some (.int x10)], [], mT (sI x152 80 7 3))) rfl ?_
                          exact w_ret K rfl (hK _)
                        · refine w_go K 3 (c' := (200, [some (.ref 80), some (.int x10)], [.int 16, .int (gI s 80 3)], mT s)) rfl ?_
                          refine w_ine K rfl (fun _ => ?_) (fun _ => ?_)
                          · refine w_go K 3 (c' := (208, [some (.ref 80), some (.int x10)], [.int 1, .int (gI s 80 8)], mT s)) rfl ?_
                            refine w_ieq K rfl (fun _ => ?_) (fun _ => ?_)
                            · refine w_go K 2 (c' := (220, [some (.ref 80), some (.int x10)], [.int 1, .ref 80], mT s)) rfl ?_
                              refine w_callLT K (E := f_Parser_fail (1 : Int32) s) (g := fun (x153 : mS) => (none, mT x153)) rfl (m_Parser_fail (len := len) (xs := xs) (d + 2) (1 : Int32) s) (fun x153 => ?_)
                              refine w_go K 0 (c' := (223, [some (.ref 80), some (.int x10)], [], mT x153)) rfl ?_
                              exact w_ret K rfl (hK _)
                            · refine w_go K 1 (c' := (212, [some (.ref 80), some (.int x10)], [.ref 80], mT s)) rfl ?_
                              refine w_callL K (E := f_Parser_closeLine s) (g := fun (x154 : mS) => (none, mT x154)) rfl (m_Parser_closeLine (len := len) (xs := xs) (d + 0) s) (fun x154 => ?_)
                              refine w_go K 1 (c' := (223, [some (.ref 80), some (.int x10)], [], mT x154)) rfl ?_
                              exact w_ret K rfl (hK _)
                          · refine w_go K 2 (c' := (220, [some (.ref 80), some (.int x10)], [.int 1, .ref 80], mT s)) rfl ?_
                            refine w_callLT K (E := f_Parser_fail (1 : Int32) s) (g := fun (x155 : mS) => (none, mT x155)) rfl (m_Parser_fail (len := len) (xs := xs) (d + 2) (1 : Int32) s) (fun x155 => ?_)
                            refine w_go K 0 (c' := (223, [some (.ref 80), some (.int x10)], [], mT x155)) rfl ?_
                            exact w_ret K rfl (hK _)
                      · refine w_go K 3 (c' := (200, [some (.ref 80), some (.int x10)], [.int 16, .int (gI s 80 3)], mT s)) rfl ?_
                        refine w_ine K rfl (fun _ => ?_) (fun _ => ?_)
                        · refine w_go K 3 (c' := (208, [some (.ref 80), some (.int x10)], [.int 1, .int (gI s 80 8)], mT s)) rfl ?_
                          refine w_ieq K rfl (fun _ => ?_) (fun _ => ?_)
                          · refine w_go K 2 (c' := (220, [some (.ref 80), some (.int x10)], [.int 1, .ref 80], mT s)) rfl ?_
                            refine w_callLT K (E := f_Parser_fail (1 : Int32) s) (g := fun (x156 : mS) => (none, mT x156)) rfl (m_Parser_fail (len := len) (xs := xs) (d + 2) (1 : Int32) s) (fun x156 => ?_)
                            refine w_go K 0 (c' := (223, [some (.ref 80), some (.int x10)], [], mT x156)) rfl ?_
                            exact w_ret K rfl (hK _)
                          · refine w_go K 1 (c' := (212, [some (.ref 80), some (.int x10)], [.ref 80], mT s)) rfl ?_
                            refine w_callL K (E := f_Parser_closeLine s) (g := fun (x157 : mS) => (none, mT x157)) rfl (m_Parser_closeLine (len := len) (xs := xs) (d + 0) s) (fun x157 => ?_)
                            refine w_go K 1 (c' := (223, [some (.ref 80), some (.int x10)], [], mT x157)) rfl ?_
                            exact w_ret K rfl (hK _)
                        · refine w_go K 2 (c' := (220, [some (.ref 80), some (.int x10)], [.int 1, .ref 80], mT s)) rfl ?_
                          refine w_callLT K (E := f_Parser_fail (1 : Int32) s) (g := fun (x158 : mS) => (none, mT x158)) rfl (m_Parser_fail (len := len) (xs := xs) (d + 2) (1 : Int32) s) (fun x158 => ?_)
                          refine w_go K 0 (c' := (223, [some (.ref 80), some (.int x10)], [], mT x158)) rfl ?_
                          exact w_ret K rfl (hK _)
                    · refine w_go K 1 (c' := (152, [some (.ref 80), some (.int x10)], [.ref 80], mT s)) rfl ?_
                      refine w_callL K (E := f_Parser_closeBracket s) (g := fun (x159 : mS) => (none, mT x159)) rfl (m_Parser_closeBracket (len := len) (xs := xs) (d + 0) s) (fun x159 => ?_)
                      refine w_go K 1 (c' := (223, [some (.ref 80), some (.int x10)], [], mT x159)) rfl ?_
                      exact w_ret K rfl (hK _)
                  · refine w_go K 3 (c' := (164, [some (.ref 80), some (.int x10)], [.int 12, .int (gI s 80 3)], mT s)) rfl ?_
                    refine w_ine K rfl (fun _ => ?_) (fun _ => ?_)
                    · refine w_go K 2 (c' := (171, [some (.ref 80), some (.int x10)], [.int (gI s 80 8)], mT s)) rfl ?_
                      refine w_zne K rfl (fun _ => ?_) (fun _ => ?_)
                      · refine w_go K 2 (c' := (176, [some (.ref 80), some (.int x10)], [.int 1, .ref 80], mT s)) rfl ?_
                        refine w_callL K (E := f_Parser_unwind (1 : Int32) s) (g := fun (x160 : mS) => (none, mT x160)) rfl (m_Parser_unwind (len := len) (xs := xs) (d + 1) (1 : Int32) s) (fun x160 => ?_)
                        refine w_go K 1 (c' := (180, [some (.ref 80), some (.int x10)], [.ref 80], mT x160)) rfl ?_
                        refine w_gP4 K rfl (fun r161 hr161 => ?_)
                        refine w_go K 0 (c' := (183, [some (.ref 80), some (.int x10)], [.ref r161], mT x160)) rfl ?_
                        refine w_callL K (E := f_Act_beginCondition r161 x160) (g := fun (x162 : mS) => (none, mT x162)) (st_c (b := 1) (st := [.ref r161]) (args := []) (rest := []) rfl rfl rfl hr161) (m_Act_beginCondition (len := len) (xs := xs) r161 hr161 (d + 2) x160) (fun x162 => ?_)
                        refine w_go K 4 (c' := (223, [some (.ref 80), some (.int x10)], [], mT (sI x162 80 7 3))) rfl ?_
                        exact w_ret K rfl (hK _)
                      · refine w_go K 3 (c' := (200, [some (.ref 80), some (.int x10)], [.int 16, .int (gI s 80 3)], mT s)) rfl ?_
                        refine w_ine K rfl (fun _ => ?_) (fun _ => ?_)
                        · refine w_go K 3 (c' := (208, [some (.ref 80), some (.int x10)], [.int 1, .int (gI s 80 8)], mT s)) rfl ?_
                          refine w_ieq K rfl (fun _ => ?_) (fun _ => ?_)
                          · refine w_go K 2 (c' := (220, [some (.ref 80), some (.int x10)], [.int 1, .ref 80], mT s)) rfl ?_
                            refine w_callLT K (E := f_Parser_fail (1 : Int32) s) (g := fun (x163 : mS) => (none, mT x163)) rfl (m_Parser_fail (len := len) (xs := xs) (d + 2) (1 : Int32) s) (fun x163 => ?_)
                            refine w_go K 0 (c' := (223, [some (.ref 80), some (.int x10)], [], mT x163)) rfl ?_
                            exact w_ret K rfl (hK _)
                          · refine w_go K 1 (c' := (212, [some (.ref 80), some (.int x10)], [.ref 80], mT s)) rfl ?_
                            refine w_callL K (E := f_Parser_closeLine s) (g := fun (x164 : mS) => (none, mT x164)) rfl (m_Parser_closeLine (len := len) (xs := xs) (d + 0) s) (fun x164 => ?_)
                            refine w_go K 1 (c' := (223, [some (.ref 80), some (.int x10)], [], mT x164)) rfl ?_
                            exact w_ret K rfl (hK _)
                        · refine w_go K 2 (c' := (220, [some (.ref 80), some (.int x10)], [.int 1, .ref 80], mT s)) rfl ?_
                          refine w_callLT K (E := f_Parser_fail (1 : Int32) s) (g := fun (x165 : mS) => (none, mT x165)) rfl (m_Parser_fail (len := len) (xs := xs) (d + 2) (1 : Int32) s) (fun x165 => ?_)
                          refine w_go K 0 (c' := (223, [some (.ref 80), some (.int x10)], [], mT x165)) rfl ?_
                          exact w_ret K rfl (hK _)
                    · refine w_go K 3 (c' := (200, [some (.ref 80), some (.int x10)], [.int 16, .int (gI s 80 3)], mT s)) rfl ?_
                      refine w_ine K rfl (fun _ => ?_) (fun _ => ?_)
                      · refine w_go K 3 (c' := (208, [some (.ref 80), some (.int x10)], [.int 1, .int (gI s 80 8)], mT s)) rfl ?_
                        refine w_ieq K rfl (fun _ => ?_) (fun _ => ?_)
                        · refine w_go K 2 (c' := (220, [some (.ref 80), some (.int x10)], [.int 1, .ref 80], mT s)) rfl ?_
                          refine w_callLT K (E := f_Parser_fail (1 : Int32) s) (g := fun (x166 : mS) => (none, mT x166)) rfl (m_Parser_fail (len := len) (xs := xs) (d + 2) (1 : Int32) s) (fun x166 => ?_)
                          refine w_go K 0 (c' := (223, [some (.ref 80), some (.int x10)], [], mT x166)) rfl ?_
                          exact w_ret K rfl (hK _)
                        · refine w_go K 1 (c' := (212, [some (.ref 80), some (.int x10)], [.ref 80], mT s)) rfl ?_
                          refine w_callL K (E := f_Parser_closeLine s) (g := fun (x167 : mS) => (none, mT x167)) rfl (m_Parser_closeLine (len := len) (xs := xs) (d + 0) s) (fun x167 => ?_)
                          refine w_go K 1 (c' := (223, [some (.ref 80), some (.int x10)], [], mT x167)) rfl ?_
                          exact w_ret K rfl (hK _)
                      · refine w_go K 2 (c' := (220, [some (.ref 80), some (.int x10)], [.int 1, .ref 80], mT s)) rfl ?_
                        refine w_callLT K (E := f_Parser_fail (1 : Int32) s) (g := fun (x168 : mS) => (none, mT x168)) rfl (m_Parser_fail (len := len) (xs := xs) (d + 2) (1 : Int32) s) (fun x168 => ?_)
                        refine w_go K 0 (c' := (223, [some (.ref 80), some (.int x10)], [], mT x168)) rfl ?_
                        exact w_ret K rfl (hK _)
                · refine w_go K 2 (c' := (132, [some (.ref 80), some (.int x10)], [.int 3, .ref 80], mT s)) rfl ?_
                  refine w_callL K (E := f_Parser_operate (3 : Int32) s) (g := fun (x169 : mS) => (none, mT x169)) rfl (m_Parser_operate (len := len) (xs := xs) (d + 0) (3 : Int32) s) (fun x169 => ?_)
                  refine w_go K 1 (c' := (223, [some (.ref 80), some (.int x10)], [], mT x169)) rfl ?_
                  exact w_ret K rfl (hK _)
              · refine w_go K 3 (c' := (144, [some (.ref 80), some (.int x10)], [.int 22, .int (gI s 80 3)], mT s)) rfl ?_
                refine w_ine K rfl (fun _ => ?_) (fun _ => ?_)
                · refine w_go K 1 (c' := (148, [some (.ref 80), some (.int x10)], [.int x10], mT s)) rfl ?_
                  refine w_zeq K rfl (fun _ => ?_) (fun _ => ?_)
                  · refine w_go K 3 (c' := (164, [some (.ref 80), some (.int x10)], [.int 12, .int (gI s 80 3)], mT s)) rfl ?_
                    refine w_ine K rfl (fun _ => ?_) (fun _ => ?_)
                    · refine w_go K 2 (c' := (171, [some (.ref 80), some (.int x10)], [.int (gI s 80 8)], mT s)) rfl ?_
                      refine w_zne K rfl (fun _ => ?_) (fun _ => ?_)
                      · refine w_go K 2 (c' := (176, [some (.ref 80), some (.int x10)], [.int 1, .ref 80], mT s)) rfl ?_
                        refine w_callL K (E := f_Parser_unwind (1 : Int32) s) (g := fun (x170 : mS) => (none, mT x170)) rfl (m_Parser_unwind (len := len) (xs := xs) (d + 1) (1 : Int32) s) (fun x170 => ?_)
                        refine w_go K 1 (c' := (180, [some (.ref 80), some (.int x10)], [.ref 80], mT x170)) rfl ?_
                        refine w_gP4 K rfl (fun r171 hr171 => ?_)
                        refine w_go K 0 (c' := (183, [some (.ref 80), some (.int x10)], [.ref r171], mT x170)) rfl ?_
                        refine w_callL K (E := f_Act_beginCondition r171 x170) (g := fun (x172 : mS) => (none, mT x172)) (st_c (b := 1) (st := [.ref r171]) (args := []) (rest := []) rfl rfl rfl hr171) (m_Act_beginCondition (len := len) (xs := xs) r171 hr171 (d + 2) x170) (fun x172 => ?_)
                        refine w_go K 4 (c' := (223, [some (.ref 80), some (.int x10)], [], mT (sI x172 80 7 3))) rfl ?_
                        exact w_ret K rfl (hK _)
                      · refine w_go K 3 (c' := (200, [some (.ref 80), some (.int x10)], [.int 16, .int (gI s 80 3)], mT s)) rfl ?_
                        refine w_ine K rfl (fun _ => ?_) (fun _ => ?_)
                        · refine w_go K 3 (c' := (208, [some (.ref 80), some (.int x10)], [.int 1, .int (gI s 80 8)], mT s)) rfl ?_
                          refine w_ieq K rfl (fun _ => ?_) (fun _ => ?_)
                          · refine w_go K 2 (c' := (220, [some (.ref 80), some (.int x10)], [.int 1, .ref 80], mT s)) rfl ?_
                            refine w_callLT K (E := f_Parser_fail (1 : Int32) s) (g := fun (x173 : mS) => (none, mT x173)) rfl (m_Parser_fail (len := len) (xs := xs) (d + 2) (1 : Int32) s) (fun x173 => ?_)
                            refine w_go K 0 (c' := (223, [some (.ref 80), some (.int x10)], [], mT x173)) rfl ?_
                            exact w_ret K rfl (hK _)
                          · refine w_go K 1 (c' := (212, [some (.ref 80), some (.int x10)], [.ref 80], mT s)) rfl ?_
                            refine w_callL K (E := f_Parser_closeLine s) (g := fun (x174 : mS) => (none, mT x174)) rfl (m_Parser_closeLine (len := len) (xs := xs) (d + 0) s) (fun x174 => ?_)
                            refine w_go K 1 (c' := (223, [some (.ref 80), some (.int x10)], [], mT x174)) rfl ?_
                            exact w_ret K rfl (hK _)
                        · refine w_go K 2 (c' := (220, [some (.ref 80), some (.int x10)], [.int 1, .ref 80], mT s)) rfl ?_
                          refine w_callLT K (E := f_Parser_fail (1 : Int32) s) (g := fun (x175 : mS) => (none, mT x175)) rfl (m_Parser_fail (len := len) (xs := xs) (d + 2) (1 : Int32) s) (fun x175 => ?_)
                          refine w_go K 0 (c' := (223, [some (.ref 80), some (.int x10)], [], mT x175)) rfl ?_
                          exact w_ret K rfl (hK _)
                    · refine w_go K 3 (c' := (200, [some (.ref 80), some (.int x10)], [.int 16, .int (gI s 80 3)], mT s)) rfl ?_
                      refine w_ine K rfl (fun _ => ?_) (fun _ => ?_)
                      · refine w_go K 3 (c' := (208, [some (.ref 80), some (.int x10)], [.int 1, .int (gI s 80 8)], mT s)) rfl ?_
                        refine w_ieq K rfl (fun _ => ?_) (fun _ => ?_)
                        · refine w_go K 2 (c' := (220, [some (.ref 80), some (.int x10)], [.int 1, .ref 80], mT s)) rfl ?_
                          refine w_callLT K (E := f_Parser_fail (1 : Int32) s) (g := fun (x176 : mS) => (none, mT x176)) rfl (m_Parser_fail (len := len) (xs := xs) (d + 2) (1 : Int32) s) (fun x176 => ?_)
                          refine w_go K 0 (c' := (223, [some (.ref 80), some (.int x10)], [], mT x176)) rfl ?_
                          exact w_ret K rfl (hK _)
                        · refine w_go K 1 (c' := (212, [some (.ref 80), some (.int x10)], [.ref 80], mT s)) rfl ?_
                          refine w_callL K (E := f_Parser_closeLine s) (g := fun (x177 : mS) => (none, mT x177)) rfl (m_Parser_closeLine (len := len) (xs := xs) (d + 0) s) (fun x177 => ?_)
                          refine w_go K 1 (c' := (223, [some (.ref 80), some (.int x10)], [], mT x177)) rfl ?_
                          exact w_ret K rfl (hK _)
                      · refine w_go K 2 (c' := (220, [some (.ref 80), some (.int x10)], [.int 1, .ref 80], mT s)) rfl ?_
                        refine w_callLT K (E := f_Parser_fail (1 : Int32) s) (g := fun (x178 : mS) => (none, mT x178)) rfl (m_Parser_fail (len := len) (xs := xs) (d + 2) (1 : Int32) s) (fun x178 => ?_)
                        refine w_go K 0 (c' := (223, [some (.ref 80), some (.int x10)], [], mT x178)) rfl ?_
                        exact w_ret K rfl (hK _)
                  · refine w_go K 1 (c' := (152, [some (.ref 80), some (.int x10)], [.ref 80], mT s)) rfl ?_
                    refine w_callL K (E := f_Parser_closeBracket s) (g := fun (x179 : mS) => (none, mT x179)) rfl (m_Parser_closeBracket (len := len) (xs := xs) (d + 0) s) (fun x179 => ?_)
                    refine w_go K 1 (c' := (223, [some (.ref 80), some (.int x10)], [], mT x179)) rfl ?_
                    exact w_ret K rfl (hK _)
                · refine w_go K 3 (c' := (164, [some (.ref 80), some (.int x10)], [.int 12, .int (gI s 80 3)], mT s)) rfl ?_
                  refine w_ine K rfl (fun _ => ?_) (fun _ => ?_)
                  · refine w_go K 2 (c' := (171, [some (.ref 80), some (.int x10)], [.int (gI s 80 8)], mT s)) rfl ?_
                    refine w_zne K rfl (fun _ => ?_) (fun _ => ?_)
                    · refine w_go K 2 (c' := (176, [some (.ref 80), some (.int x10)], [.int 1, .ref 80], mT s)) rfl ?_
                      refine w_callL K (E := f_Parser_unwind (1 : Int32) s) (g := fun (x180 : mS) => (none, mT x180)) rfl (m_Parser_unwind (len := len) (xs := xs) (d + 1) (1 : Int32) s) (fun x180 => ?_)
                      refine w_go K 1 (c' := (180, [some (.ref 80), some (.int x10)], [.ref 80], mT x180)) rfl ?_
                      refine w_gP4 K rfl (fun r181 hr181 => ?_)
                      refine w_go K 0 (c' := (183, [some (.ref 80), some (.int x10)], [.ref r181], mT x180)) rfl ?_
                      refine w_callL K (E := f_Act_beginCondition r181 x180) (g := fun (x182 : mS) => (none, mT x182)) (st_c (b := 1) (st := [.ref r181]) (args := []) (rest := []) rfl rfl rfl hr181) (m_Act_beginCondition (len := len) (xs := xs) r181 hr181 (d + 2) x180) (fun x182 => ?_)
                      refine w_go K 4 (c' := (223, [some (.ref 80), some (.int x10)], [], mT (sI x182 80 7 3))) rfl ?_
                      exact w_ret K rfl (hK _)
                    · refine w_go K 3 (c' := (200, [some (.ref 80), some (.int x10)], [.int 16, .int (gI s 80 3)], mT s)) rfl ?_
                      refine w_ine K rfl (fun _ => ?_) (fun _ => ?_)
                      · refine w_go K 3 (c' := (208, [some (.ref 80), some (.int x10)], [.int 1, .int (gI s 80 8)], mT s)) rfl ?_
                        refine w_ieq K rfl (fun _ => ?_) (fun _ => ?_)
                        · refine w_go K 2 (c' := (220, [some (.ref 80), some (.int x10)], [.int 1, .ref 80], mT s)) rfl ?_
                          refine w_callLT K (E := f_Parser_fail (1 : Int32) s) (g := fun (x183 : mS) => (none, mT x183)) rfl (m_Parser_fail (len := len) (xs := xs) (d + 2) (1 : Int32) s) (fun x183 => ?_)
                          refine w_go K 0 (c' := (223, [some (.ref 80), some (.int x10)], [], mT x183)) rfl ?_
                          exact w_ret K rfl (hK _)
                        · refine w_go K 1 (c' := (212, [some (.ref 80), some (.int x10)], [.ref 80], mT s)) rfl ?_
                          refine w_callL K (E := f_Parser_closeLine s) (g := fun (x184 : mS) => (none, mT x184)) rfl (m_Parser_closeLine (len := len) (xs := xs) (d + 0) s) (fun x184 => ?_)
                          refine w_go K 1 (c' := (223, [some (.ref 80), some (.int x10)], [], mT x184)) rfl ?_
                          exact w_ret K rfl (hK _)
                      · refine w_go K 2 (c' := (220, [some (.ref 80), some (.int x10)], [.int 1, .ref 80], mT s)) rfl ?_
                        refine w_callLT K (E := f_Parser_fail (1 : Int32) s) (g := fun (x185 : mS) => (none, mT x185)) rfl (m_Parser_fail (len := len) (xs := xs) (d + 2) (1 : Int32) s) (fun x185 => ?_)
                        refine w_go K 0 (c' := (223, [some (.ref 80), some (.int x10)], [], mT x185)) rfl ?_
                        exact w_ret K rfl (hK _)
                  · refine w_go K 3 (c' := (200, [some (.ref 80), some (.int x10)], [.int 16, .int (gI s 80 3)], mT s)) rfl ?_
                    refine w_ine K rfl (fun _ => ?_) (fun _ => ?_)
                    · refine w_go K 3 (c' := (208, [some (.ref 80), some (.int x10)], [.int 1, .int (gI s 80 8)], mT s)) rfl ?_
                      refine w_ieq K rfl (fun _ => ?_) (fun _ => ?_)
                      · refine w_go K 2 (c' := (220, [some (.ref 80), some (.int x10)], [.int 1, .ref 80], mT s)) rfl ?_
                        refine w_callLT K (E := f_Parser_fail (1 : Int32) s) (g := fun (x186 : mS) => (none, mT x186)) rfl (m_Parser_fail (len := len) (xs := xs) (d + 2) (1 : Int32) s) (fun x186 => ?_)
                        refine w_go K 0 (c' := (223, [some (.ref 80), some (.int x10)], [], mT x186)) rfl ?_
                        exact w_ret K rfl (hK _)
                      · refine w_go K 1 (c' := (212, [some (.ref 80), some (.int x10)], [.ref 80], mT s)) rfl ?_
                        refine w_callL K (E := f_Parser_closeLine s) (g := fun (x187 : mS) => (none, mT x187)) rfl (m_Parser_closeLine (len := len) (xs := xs) (d + 0) s) (fun x187 => ?_)
                        refine w_go K 1 (c' := (223, [some (.ref 80), some (.int x10)], [], mT x187)) rfl ?_
                        exact w_ret K rfl (hK _)
                    · refine w_go K 2 (c' := (220, [some (.ref 80), some (.int x10)], [.int 1, .ref 80], mT s)) rfl ?_
                      refine w_callLT K (E := f_Parser_fail (1 : Int32) s) (g := fun (x188 : mS) => (none, mT x188)) rfl (m_Parser_fail (len := len) (xs := xs) (d + 2) (1 : Int32) s) (fun x188 => ?_)
                      refine w_go K 0 (c' := (223, [some (.ref 80), some (.int x10)], [], mT x188)) rfl ?_
                      exact w_ret K rfl (hK _)
    · refine w_go K 3 (c' := (37, [some (.ref 80), some (.int x10)], [.int 20, .int (gI s 80 3)], mT s)) rfl ?_
      refine w_igt K rfl (fun _ => ?_) (fun _ => ?_)
      · refine w_go K 3 (c' := (75, [some (.ref 80), some (.int x10)], [.int 23, .int (gI s 80 3)], mT s)) rfl ?_
        refine w_ilt K rfl (fun _ => ?_) (fun _ => ?_)
        · refine w_go K 3 (c' := (114, [some (.ref 80), some (.int x10)], [.int 14, .int (gI s 80 3)], mT s)) rfl ?_
          refine w_ieq K rfl (fun _ => ?_) (fun _ => ?_)
          · refine w_go K 1 (c' := (127, [some (.ref 80), some (.int x10)], [.int x10], mT s)) rfl ?_
            refine w_zeq K rfl (fun _ => ?_) (fun _ => ?_)
            · refine w_go K 3 (c' := (144, [some (.ref 80), some (.int x10)], [.int 22, .int (gI s 80 3)], mT s)) rfl ?_
              refine w_ine K rfl (fun _ => ?_) (fun _ => ?_)
              · refine w_go K 1 (c' := (148, [some (.ref 80), some (.int x10)], [.int x10], mT s)) rfl ?_
                refine w_zeq K rfl (fun _ => ?_) (fun _ => ?_)
                · refine w_go K 3 (c' := (164, [some (.ref 80), some (.int x10)], [.int 12, .int (gI s 80 3)], mT s)) rfl ?_
                  refine w_ine K rfl (fun _ => ?_) (fun _ => ?_)
                  · refine w_go K 2 (c' := (171, [some (.ref 80), some (.int x10)], [.int (gI s 80 8)], mT s)) rfl ?_
                    refine w_zne K rfl (fun _ => ?_) (fun _ => ?_)
                    · refine w_go K 2 (c' := (176, [some (.ref 80), some (.int x10)], [.int 1, .ref 80], mT s)) rfl ?_
                      refine w_callL K (E := f_Parser_unwind (1 : Int32) s) (g := fun (x189 : mS) => (none, mT x189)) rfl (m_Parser_unwind (len := len) (xs := xs) (d + 1) (1 : Int32) s) (fun x189 => ?_)
                      refine w_go K 1 (c' := (180, [some (.ref 80), some (.int x10)], [.ref 80], mT x189)) rfl ?_
                      refine w_gP4 K rfl (fun r190 hr190 => ?_)
                      refine w_go K 0 (c' := (183, [some (.ref 80), some (.int x10)], [.ref r190], mT x189)) rfl ?_
                      refine w_callL K (E := f_Act_beginCondition r190 x189) (g := fun (x191 : mS) => (none, mT x191)) (st_c (b := 1) (st := [.ref r190]) (args := []) (rest := []) rfl rfl rfl hr190) (m_Act_beginCondition (len := len) (xs := xs) r190 hr190 (d + 2) x189) (fun x191 => ?_)
                      refine w_go K 4 (c' := (223, [some (.ref 80), some (.int x10)], [], mT (sI x191 80 7 3))) rfl ?_
                      exact w_ret K rfl (hK _)
                    · refine w_go K 3 (c' := (200, [some (.ref 80), some (.int x10)], [.int 16, .int (gI s 80 3)], mT s)) rfl ?_
                      refine w_ine K rfl (fun _ => ?_) (fun _ => ?_)
                      · refine w_go K 3 (c' := (208, [some (.ref 80), some (.int x10)], [.int 1, .int (gI s 80 8)], mT s)) rfl ?_
                        refine w_ieq K rfl (fun _ => ?_) (fun _ => ?_)
                        · refine w_go K 2 (c' := (220, [some (.ref 80), some (.int x10)], [.int 1, .ref 80], mT s)) rfl ?_
                          refine w_callLT K (E := f_Parser_fail (1 : Int32) s) (g := fun (x192 : mS) => (none, mT x192)) rfl (m_Parser_fail (len := len) (xs := xs) (d + 2) (1 : Int32) s) (fun x192 => ?_)
                          refine w_go K 0 (c' := (223, [some (.ref 80), some (.int x10)], [], mT x192)) rfl ?_
                          exact w_ret K rfl (hK _)
                        · refine w_go K 1 (c' := (212, [some (.ref 80), some (.int x10)], [.ref 80], mT s)) rfl ?_
                          refine w_callL K (E := f_Parser_closeLine s) (g := fun (x193 : mS) => (none, mT x193)) rfl (m_Parser_closeLine (len := len) (xs := xs) (d + 0) s) (fun x193 => ?_)
                          refine w_go K 1 (c' := (223, [some (.ref 80), some (.int x10)], [], mT x193)) rfl ?_
                          exact w_ret K rfl (hK _)
                      · refine w_go K 2 (c' := (220, [some (.ref 80), some (.int x10)], [.int 1, .ref 80], mT s)) rfl ?_
                        refine w_callLT K (E := f_Parser_fail (1 : Int32) s) (g := fun (x194 : mS) => (none, mT x194)) rfl (m_Parser_fail (len := len) (xs := xs) (d + 2) (1 : Int32) s) (fun x194 => ?_)
                        refine w_go K 0 (c' := (223, [some (.ref 80), some (.int x10)], [], mT x194)) rfl ?_
                        exact w_ret K rfl (hK _)
                  · refine w_go K 3 (c' := (200, [some (.ref 80), some (.int x10)], [.int 16, .int (gI s 80 3)], mT s)) rfl ?_
                    refine w_ine K rfl (fun _ => ?_) (fun _ => ?_)
                    · refine w_go K 3 (c' := (208, [some (.ref 80), some (.int x10)], [.int 1, .int (gI s 80 8)], mT s)) rfl ?_
                      refine w_ieq K rfl (fun _ => ?_) (fun _ => ?_)
                      · refine w_go K 2 (c' := (220, [some (.ref 80), some (.int x10)], [.int 1, .ref 80], mT s)) rfl ?_
                        refine w_callLT K (E := f_Parser_fail (1 : Int32) s) (g := fun (x195 : mS) => (none, mT x195)) rfl (m_Parser_fail (len := len) (xs := xs) (d + 2) (1 : Int32) s) (fun x195 => ?_)
                        refine w_go K 0 (c' := (223, [some (.ref 80), some (.int x10)], [], mT x195)) rfl ?_
                        exact w_ret K rfl (hK _)
                      · refine w_go K 1 (c' := (212, [some (.ref 80), some (.int x10)], [.ref 80], mT s)) rfl ?_
                        refine w_callL K (E := f_Parser_closeLine s) (g := fun (x196 : mS) => (none, mT x196)) rfl (m_Parser_closeLine (len := len) (xs := xs) (d + 0) s) (fun x196 => ?_)
                        refine w_go K 1 (c' := (223, [some (.ref 80), some (.int x10)], [], mT x196)) rfl ?_
                        exact w_ret K rfl (hK _)
                    · refine w_go K 2 (c' := (220, [some (.ref 80), some (.int x10)], [.int 1, .ref 80], mT s)) rfl ?_
                      refine w_callLT K (E := f_Parser_fail (1 : Int32) s) (g := fun (x197 : mS) => (none, mT x197)) rfl (m_Parser_fail (len := len) (xs := xs) (d + 2) (1 : Int32) s) (fun x197 => ?_)
                      refine w_go K 0 (c' := (223, [some (.ref 80), some (.int x10)], [], mT x197)) rfl ?_
                      exact w_ret K rfl (hK _)
                · refine w_go K 1 (c' := (152, [some (.ref 80), some (.int x10)], [.ref 80], mT s)) rfl ?_
                  refine w_callL K (E := f_Parser_closeBracket s) (g := fun (x198 : mS) => (none, mT x198)) rfl (m_Parser_closeBracket (len := len) (xs := xs) (d + 0) s) (fun x198 => ?_)
                  refine w_go K 1 (c' := (223, [some (.ref 80), some (.int x10)], [], mT x198)) rfl ?_
                  exact w_ret K rfl (hK _)
              · refine w_go K 3 (c' := (164, [some (.ref 80), some (.int x10)], [.int 12, .int (gI s 80 3)], mT s)) rfl ?_
                refine w_ine K rfl (fun _ => ?_) (fun _ => ?_)
                · refine w_go K 2 (c' := (171, [some (.ref 80), some (.int x10)], [.int (gI s 80 8)], mT s)) rfl ?_
                  refine w_zne K rfl (fun _ => ?_) (fun _ => ?_)
                  · refine w_go K 2 (c' := (176, [some (.ref 80), some (.int x10)], [.int 1, .ref 80], mT s)) rfl ?_
                    refine w_callL K (E := f_Parser_unwind (1 : Int32) s) (g := fun (x199 : mS) => (none, mT x199)) rfl (m_Parser_unwind (len := len) (xs := xs) (d + 1) (1 : Int32) s) (fun x199 => ?_)
                    refine w_go K 1 (c' := (180, [some (.ref 80), some (.int x10)], [.ref 80], mT x199)) rfl ?_
                    refine w_gP4 K rfl (fun r200 hr200 => ?_)
                    refine w_go K 0 (c' := (183, [some (.ref 80), some (.int x10)], [.ref r200], mT x199)) rfl ?_
                    refine w_callL K (E := f_Act_beginCondition r200 x199) (g := fun (x201 : mS) => (none, mT x201)) (st_c (b := 1) (st := [.ref r200]) (args := []) (rest := []) rfl rfl rfl hr200) (m_Act_beginCondition (len := len) (xs := xs) r200 hr200 (d + 2) x199) (fun x201 => ?_)
                    refine w_go K 4 (c' := (223, [some (.ref 80), some (.int x10)], [], mT (sI x201 80 7 3))) rfl ?_
                    exact w_ret K rfl (hK _)
                  · refine w_go K 3 (c' := (200, [some (.ref 80), some (.int x10)], [.int 16, .int (gI s 80 3)], mT s)) rfl ?_
                    refine w_ine K rfl (fun _ => ?_) (fun _ => ?_)
                    · refine w_go K 3 (c' := (208, [some (.ref 80), some (.int x10)], [.int 1, .int (gI s 80 8)], mT s)) rfl ?_
                      refine w_ieq K rfl (fun _ => ?_) (fun _ => ?_)
                      · refine w_go K 2 (c' := (220, [some (.ref 80), some (.int x10)], [.int 1, .ref 80], mT s)) rfl ?_
                        refine w_callLT K (E := f_Parser_fail (1 : Int32) s) (g := fun (x202 : mS) => (none, mT x202)) rfl (m_Parser_fail (len := len) (xs := xs) (d + 2) (1 : Int32) s) (fun x202 => ?_)
                        refine w_go K 0 (c' := (223, [some (.ref 80), some (.int x10)], [], mT x202)) rfl ?_
                        exact w_ret K rfl (hK _)
                      · refine w_go K 1 (c' := (212, [some (.ref 80), some (.int x10)], [.ref 80], mT s)) rfl ?_
                        refine w_callL K (E := f_Parser_closeLine s) (g := fun (x203 : mS) => (none, mT x203)) rfl (m_Parser_closeLine (len := len) (xs := xs) (d + 0) s) (fun x203 => ?_)
                        refine w_go K 1 (c' := (223, [some (.ref 80), some (.int x10)], [], mT x203)) rfl ?_
                        exact w_ret K rfl (hK _)
                    · refine w_go K 2 (c' := (220, [some (.ref 80), some (.int x10)], [.int 1, .ref 80], mT s)) rfl ?_
                      refine w_callLT K (E := f_Parser_fail (1 : Int32) s) (g := fun (x204 : mS) => (none, mT x204)) rfl (m_Parser_fail (len := len) (xs := xs) (d + 2) (1 : Int32) s) (fun x204 => ?_)
                      refine w_go K 0 (c' := (223, [some (.ref 80), some (.int x10)], [], mT x204)) rfl ?_
                      exact w_ret K rfl (hK _)
                · refine w_go K 3 (c' := (200, [some (.ref 80), some (.int x10)], [.int 16, .int (gI s 80 3)], mT s)) rfl ?_
                  refine w_ine K rfl (fun _ => ?_) (fun _ => ?_)
                  · refine w_go K 3 (c' := (208, [some (.ref 80), some (.int x10)], [.int 1, .int (gI s 80 8)], mT s)) rfl ?_
                    refine w_ieq K rfl (fun _ => ?_) (fun _ => ?_)
                    · refine w_go K 2 (c' := (220, [some (.ref 80), some (.int x10)], [.int 1, .ref 80], mT s)) rfl ?_
                      refine w_callLT K (E := f_Parser_fail (1 : Int32) s) (g := fun (x205 : mS) => (none, mT x205)) rfl (m_Parser_fail (len := len) (xs := xs) (d + 2) (1 : Int32) s) (fun x205 => ?_)
                      refine w_go K 0 (c' := (223, [some (.ref 80), some (.int x10)], [], mT x205)) rfl ?_
                      exact w_ret K rfl (hK _)
                    · refine w_go K 1 (c' := (212, [some (.ref 80), some (.int x10)], [.ref 80], mT s)) rfl ?_
                      refine w_callL K (E := f_Parser_closeLine s) (g := fun (x206 : mS) => (none, mT x206)) rfl (m_Parser_closeLine (len := len) (xs := xs) (d + 0) s) (fun x206 => ?_)
                      refine w_go K 1 (c' := (223, [some (.ref 80), some (.int x10)], [], mT x206)) rfl ?_
                      exact w_ret K rfl (hK _)
                  · refine w_go K 2 (c' := (220, [some (.ref 80), some (.int x10)], [.int 1, .ref 80], mT s)) rfl ?_
                    refine w_callLT K (E := f_Parser_fail (1 : Int32) s) (g := fun (x207 : mS) => (none, mT x207)) rfl (m_Parser_fail (len := len) (xs := xs) (d + 2) (1 : Int32) s) (fun x207 => ?_)
                    refine w_go K 0 (c' := (223, [some (.ref 80), some (.int x10)], [], mT x207)) rfl ?_
                    exact w_ret K rfl (hK _)
            · refine w_go K 2 (c' := (132, [some (.ref 80), some (.int x10)], [.int 3, .ref 80], mT s)) rfl ?_
              refine w_callL K (E := f_Parser_operate (3 : Int32) s) (g := fun (x208 : mS) => (none, mT x208)) rfl (m_Parser_operate (len := len) (xs := xs) (d + 0) (3 : Int32) s) (fun x208 => ?_)
              refine w_go K 1 (c' := (223, [some (.ref 80), some (.int x10)], [], mT x208)) rfl ?_
              exact w_ret K rfl (hK _)
          · refine w_go K 3 (c' := (123, [some (.ref 80), some (.int x10)], [.int 13, .int (gI s 80 3)], mT s)) rfl ?_
            refine w_ine K rfl (fun _ => ?_) (fun _ => ?_)
            · refine w_go K 1 (c' := (127, [some (.ref 80), some (.int x10)], [.int x10], mT s)) rfl ?_
              refine w_zeq K rfl (fun _ => ?_) (fun _ => ?_)
              · refine w_go K 3 (c' := (144, [some (.ref 80), some (.int x10)], [.int 22, .int (gI s 80 3)], mT s)) rfl ?_
                refine w_ine K rfl (fun _ => ?_) (fun _ => ?_)
                · refine w_go K 1 (c' := (148, [some (.ref 80), some (.int x10)], [.int x10], mT s)) rfl ?_
                  refine w_zeq K rfl (fun _ => ?_) (fun _ => ?_)
                  · refine w_go K 3 (c' := (164, [some (.ref 80), some (.int x10)], [.int 12, .int (gI s 80 3)], mT s)) rfl ?_
                    refine w_ine K rfl (fun _ => ?_) (fun _ => ?_)
                    · refine w_go K 2 (c' := (171, [some (.ref 80), some (.int x10)], [.int (gI s 80 8)], mT s)) rfl ?_
                      refine w_zne K rfl (fun _ => ?_) (fun _ => ?_)
                      · refine w_go K 2 (c' := (176, [some (.ref 80), some (.int x10)], [.int 1, .ref 80], mT s)) rfl ?_
                        refine w_callL K (E := f_Parser_unwind (1 : Int32) s) (g := fun (x209 : mS) => (none, mT x209)) rfl (m_Parser_unwind (len := len) (xs := xs) (d + 1) (1 : Int32) s) (fun x209 => ?_)
                        refine w_go K 1 (c' := (180, [some (.ref 80), some (.int x10)], [.ref 80], mT x209)) rfl ?_
                        refine w_gP4 K rfl (fun r210 hr210 => ?_)
                        refine w_go K 0 (c' := (183, [some (.ref 80), some (.int x10)], [.ref r210], mT x209)) rfl ?_
                        refine w_callL K (E := f_Act_beginCondition r210 x209) (g := fun (x211 : mS) => (none, mT x211)) (st_c (b := 1) (st := [.ref r210]) (args := []) (rest := []) rfl rfl rfl hr210) (m_Act_beginCondition (len := len) (xs := xs) r210 hr210 (d + 2) x209) (fun x211 => ?_)
                        refine w_go K 4 (c' := (223, [some (.ref 80), some (.int x10)], [], mT (sI x211 80 7 3))) rfl ?_
                        exact w_ret K rfl (hK _)
                      · refine w_go K 3 (c' := (200, [some (.ref 80), some (.int x10)], [.int 16, .int (gI s 80 3)], mT s)) rfl ?_
                        refine w_ine K rfl (fun _ => ?_) (fun _ => ?_)
                        · refine w_go K 3 (c' := (208, [some (.ref 80), some (.int x10)], [.int 1, .int (gI s 80 8)], mT s)) rfl ?_
                          refine w_ieq K rfl (fun _ => ?_) (fun _ => ?_)
                          · refine w_go K 2 (c' := (220, [some (.ref 80), some (.int x10)], [.int 1, .ref 80], mT s)) rfl ?_
                            refine w_callLT K (E := f_Parser_fail (1 : Int32) s) (g := fun (x212 : mS) => (none, mT x212)) rfl (m_Parser_fail (len := len) (xs := xs) (d + 2) (1 : Int32) s) (fun x212 => ?_)
                            refine w_go K 0 (c' := (223, [some (.ref 80), some (.int x10)], [], mT x212)) rfl ?_
                            exact w_ret K rfl (hK _)
                          · refine w_go K 1 (c' := (212, [some (.ref 80), some (.int x10)], [.ref 80], mT s)) rfl ?_
                            refine w_callL K (E := f_Parser_closeLine s) (g := fun (x213 : mS) => (none, mT x213)) rfl (m_Parser_closeLine (len := len) (xs := xs) (d + 0) s) (fun x213 => ?_)
                            refine w_go K 1 (c' := (223, [some (.ref 80), some (.int x10)], [], mT x213)) rfl ?_
                            exact w_ret K rfl (hK _)
                        · refine w_go K 2 (c' := (220, [some (.ref 80), some (.int x10)], [.int 1, .ref 80], mT s)) rfl ?_
                          refine w_callLT K (E := f_Parser_fail (1 : Int32) s) (g := fun (x214 : mS) => (none, mT x214)) rfl (m_Parser_fail (len := len) (xs := xs) (d + 2) (1 : Int32) s) (fun x214 => ?_)
                          refine w_go K 0 (c' := (223, [some (.ref 80), some (.int x10)], [], mT x214)) rfl ?_
                          exact w_ret K rfl (hK _)
                    · refine w_go K 3 (c' := (200, [some (.ref 80), some (.int x10)], [.int 16, .int (gI s 80 3)], mT s)) rfl ?_
                      refine w_ine K rfl (fun _ => ?_) (fun _ => ?_)
                      · refine w_go K 3 (c' := (208, [some (.ref 80), some (.int x10)], [.int 1, .int (gI s 80 8)], mT s)) rfl ?_
                        refine w_ieq K rfl (fun _ => ?_) (fun _ => ?_)
                        · refine w_go K 2 (c' := (220, [some (.ref 80), some (.int x10)], [.int 1, .ref 80], mT s)) rfl ?_
                          refine w_callLT K (E := f_Parser_fail (1 : Int32) s) (g := fun (x215 : mS) => (none, mT x215)) rfl (m_Parser_fail (len := len) (xs := xs) (d + 2) (1 : Int32) s) (fun x215 => ?_)
                          refine w_go K 0 (c' := (223, [some (.ref 80), some (.int x10)], [], mT x215)) rfl ?_
                          exact w_ret K rfl (hK _)
                        · refine w_go K 1 (c' := (212, [some (.ref 80), some (.int x10)], [.ref 80], mT s)) rfl ?_
                          refine w_callL K (E := f_Parser_closeLine s) (g := fun (x216 : mS) => (none, mT x216)) rfl (m_Parser_closeLine (len := len) (xs := xs) (d + 0) s) (fun x216 => ?_)
                          refine w_go K 1 (c' := (223, [some (.ref 80), some (.int x10)], [], mT x216)) rfl ?_
                          exact w_ret K rfl (hK _)
                      · refine w_go K 2 (c' := (220, [some (.ref 80), some (.int x10)], [.int 1, .ref 80], mT s)) rfl ?_
                        refine w_callLT K (E := f_Parser_fail (1 : Int32) s) (g := fun (x217 : mS) => (none, mT x217)) rfl (m_Parser_fail (len := len) (xs := xs) (d + 2) (1 : Int32) s) (fun x217 => ?_)
                        refine w_go K 0 (c' := (223, [some (.ref 80), some (.int x10)], [], mT x217)) rfl ?_
                        exact w_ret K rfl (hK _)
                  · refine w_go K 1 (c' := (152, [some (.ref 80), some (.int x10)], [.ref 80], mT s)) rfl ?_
                    refine w_callL K (E := f_Parser_closeBracket s) (g := fun (x218 : mS) => (none, mT x218)) rfl (m_Parser_closeBracket (len := len) (xs := xs) (d + 0) s) (fun x218 => ?_)
                    refine w_go K 1 (c' := (223, [some (.ref 80), some (.int x10)], [], mT x218)) rfl ?_
                    exact w_ret K rfl (hK _)
                · refine w_go K 3 (c' := (164, [some (.ref 80), some (.int x10)], [.int 12, .int (gI s 80 3)], mT s)) rfl ?_
                  refine w_ine K rfl (fun _ => ?_) (fun _ => ?_)
                  · refine w_go K 2 (c' := (171, [some (.ref 80), some (.int x10)], [.int (gI s 80 8)], mT s)) rfl ?_
                    refine w_zne K rfl (fun _ => ?_) (fun _ => ?_)
                    · refine w_go K 2 (c' := (176, [some (.ref 80), some (.int x10)], [.int 1, .ref 80], mT s)) rfl ?_
                      refine w_callL K (E := f_Parser_unwind (1 : Int32) s) (g := fun (x219 : mS) => (none, mT x219)) rfl (m_Parser_unwind (len := len) (xs := xs) (d + 1) (1 : Int32) s) (fun x219 => ?_)
                      refine w_go K 1 (c' := (180, [some (.ref 80), some (.int x10)], [.ref 80], mT x219)) rfl ?_
                      refine w_gP4 K rfl (fun r220 hr220 => ?_)
                      refine w_go K 0 (c' := (183, [some (.ref 80), some (.int x10)], [.ref r220], mT x219)) rfl ?_
                      refine w_callL K (E := f_Act_beginCondition r220 x219) (g := fun (x221 : mS) => (none, mT x221)) (st_c (b := 1) (st := [.ref r220]) (args := []) (rest := []) rfl rfl rfl hr220) (m_Act_beginCondition (len := len) (xs := xs) r220 hr220 (d + 2) x219) (fun x221 => ?_)
                      refine w_go K 4 (c' := (223, [some (.ref 80), some (.int x10)], [], mT (sI x221 80 7 3))) rfl ?_
                      exact w_ret K rfl (hK _)
                    · refine w_go K 3 (c' := (200, [some (.ref 80), some (.int x10)], [.int 16, .int (gI s 80 3)], mT s)) rfl ?_
                      refine w_ine K rfl (fun _ => ?_) (fun _ => ?_)
                      · refine w_go K 3 (c' := (208, [some (.ref 80), some (.int x10)], [.int 1, .int (gI s 80 8)], mT s)) rfl ?_
                        refine w_ieq K rfl (fun _ => ?_) (fun _ => ?_)
                        · refine w_go K 2 (c' := (220, [some (.ref 80), some (.int x10)], [.int 1, .ref 80], mT s)) rfl ?_
                          refine w_callLT K (E := f_Parser_fail (1 : Int32) s) (g := fun (x222 : mS) => (none, mT x222)) rfl (m_Parser_fail (len := len) (xs := xs) (d + 2) (1 : Int32) s) (fun x222 => ?_)
                          refine w_go K 0 (c' := (223, [some (.ref 80), some (.int x10)], [], mT x222)) rfl ?_
                          exact w_ret K rfl (hK _)
                        · refine w_go K 1 (c' := (212, [some (.ref 80), some (.int x10)], [.ref 80], mT s)) rfl ?_
                          refine w_callL K (E := f_Parser_closeLine s) (g := fun (x223 : mS) => (none, mT x223)) rfl (m_Parser_closeLine (len := len) (xs := xs) (d + 0) s) (fun x223 => ?_)
                          refine w_go K 1 (c' := (223, [some (.ref 80), some (.int x10)], [], mT x223)) rfl ?_
                          exact w_ret K rfl (hK _)
                      · refine w_go K 2 (c' := (220, [some (.ref 80), some (.int x10)], [.int 1, .ref 80], mT s)) rfl ?_
                        refine w_callLT K (E := f_Parser_fail (1 : Int32) s) (g := fun (x224 : mS) => (none, mT x224)) rfl (m_Parser_fail (len := len) (xs := xs) (d + 2) (1 : Int32) s) (fun x224 => ?_)
                        refine w_go K 0 (c' := (223, [some (.ref 80), some (.int x10)], [], mT x224)) rfl ?_
                        exact w_ret K rfl (hK _)
                  · refine w_go K 3 (c' := (200, [some (.ref 80), some (.int x10)], [.int 16, .int (gI s 80 3)], mT s)) rfl ?_
                    refine w_ine K rfl (fun _ => ?_) (fun _ => ?_)
                    · refine w_go K 3 (c' := (208, [some (.ref 80), some (.int x10)], [.int 1, .int (gI s 80 8)], mT s)) rfl ?_
                      refine w_ieq K rfl (fun _ => ?_) (fun _ => ?_)
                      · refine w_go K 2 (c' := (220, [some (.ref 80), some (.int x10)], [.int 1, .ref 80], mT s)) rfl ?_
                        refine w_callLT K (E := f_Parser_fail (1 : Int32) s) (g := fun (x225 : mS) => (none, mT x225)) rfl (m_Parser_fail (len := len) (xs := xs) (d + 2) (1 : Int32) s) (fun x225 => ?_)
                        refine w_go K 0 (c' := (223, [some (.ref 80), some (.int x10)], [], mT x225)) rfl ?_
                        exact w_ret K rfl (hK _)
                      · refine w_go K 1 (c' := (212, [some (.ref 80), some (.int x10)], [.ref 80], mT s)) rfl ?_
                        refine w_callL K (E := f_Parser_closeLine s) (g := fun (x226 : mS) => (none, mT x226)) rfl (m_Parser_closeLine (len := len) (xs := xs) (d + 0) s) (fun x226 => ?_)
                        refine w_go K 1 (c' := (223, [some (.ref 80), some (.int x10)], [], mT x226)) rfl ?_
                        exact w_ret K rfl (hK _)
                    · refine w_go K 2 (c' := (220, [some (.ref 80), some (.int x10)], [.int 1, .ref 80], mT s)) rfl ?_
                      refine w_callLT K (E := f_Parser_fail (1 : Int32) s) (g := fun (x227 : mS) => (none, mT x227)) rfl (m_Parser_fail (len := len) (xs := xs) (d + 2) (1 : Int32) s) (fun x227 => ?_)
                      refine w_go K 0 (c' := (223, [some (.ref 80), some (.int x10)], [], mT x227)) rfl ?_
                      exact w_ret K rfl (hK _)
              · refine w_go K 2 (c' := (132, [some (.ref 80), some (.int x10)], [.int 3, .ref 80], mT s)) rfl ?_
                refine w_callL K (E := f_Parser_operate (3 : Int32) s) (g := fun (x228 : mS) => (none, mT x228)) rfl (m_Parser_operate (len := len) (xs := xs) (d + 0) (3 : Int32) s) (fun x228 => ?_)
                refine w_go K 1 (c' := (223, [some (.ref 80), some (.int x10)], [], mT x228)) rfl ?_
                exact w_ret K rfl (hK _)
            · refine w_go K 3 (c' := (144, [some (.ref 80), some (.int x10)], [.int 22, .int (gI s 80 3)], mT s)) rfl ?_
              refine w_ine K rfl (fun _ => ?_) (fun _ => ?_)
              · refine w_go K 1 (c' := (148, [some (.ref 80), some (.int x10)], [.int x10], mT s)) rfl ?_
                refine w_zeq K rfl (fun _ => ?_) (fun _ => ?_)
                · refine w_go K 3 (c' := (164, [some (.ref 80), some (.int x10)], [.int 12, .int (gI s 80 3)], mT s)) rfl ?_
                  refine w_ine K rfl (fun _ => ?_) (fun _ => ?_)
                  · refine w_go K 2 (c' := (171, [some (.ref 80), some (.int x10)], [.int (gI s 80 8)], mT s)) rfl ?_
                    refine w_zne K rfl (fun _ => ?_) (fun _ => ?_)
                    · refine w_go K 2 (c' := (176, [some (.ref 80), some (.int x10)], [.int 1, .ref 80], mT s)) rfl ?_
                      refine w_callL K (E := f_Parser_unwind (1 : Int32) s) (g := fun (x229 : mS) => (none, mT x229)) rfl (m_Parser_unwind (len := len) (xs := xs) (d + 1) (1 : Int32) s) (fun x229 => ?_)
                      refine w_go K 1 (c' := (180, [some (.ref 80), some (.int x10)], [.ref 80], mT x229)) rfl ?_
                      refine w_gP4 K rfl (fun r230 hr230 => ?_)
                      refine w_go K 0 (c' := (183, [some (.ref 80), some (.int x10)], [.ref r230], mT x229)) rfl ?_
                      refine w_callL K (E := f_Act_beginCondition r230 x229) (g := fun (x231 : mS) => (none, mT x231)) (st_c (b := 1) (st := [.ref r230]) (args := []) (rest := []) rfl rfl rfl hr230) (m_Act_beginCondition (len := len) (xs := xs) r230 hr230 (d + 2) x229) (fun x231 => ?_)
                      refine w_go K 4 (c' := (223, [some (.ref 80), some (.int x10)], [], mT (sI x231 80 7 3))) rfl ?_
                      exact w_ret K rfl (hK _)
                    · refine w_go K 3 (c' := (200, [some (.ref 80), some (.int x10)], [.int 16, .int (gI s 80 3)], mT s)) rfl ?_
                      refine w_ine K rfl (fun _ => ?_) (fun _ => ?_)
                      · refine w_go K 3 (c' := (208, [some (.ref 80), some (.int x10)], [.int 1, .int (gI s 80 8)], mT s)) rfl ?_
                        refine w_ieq K rfl (fun _ => ?_) (fun _ => ?_)
                        · refine w_go K 2 (c' := (220, [some (.ref 80), some (.int x10)], [.int 1, .ref 80], mT s)) rfl ?_
                          refine w_callLT K (E := f_Parser_fail (1 : Int32) s) (g := fun (x232 : mS) => (none, mT x232)) rfl (m_Parser_fail (len := len) (xs := xs) (d + 2) (1 : Int32) s) (fun x232 => ?_)
                          refine w_go K 0 (c' := (223, [some (.ref 80), some (.int x10)], [], mT x232)) rfl ?_
                          exact w_ret K rfl (hK _)
                        · refine w_go K 1 (c' := (212, [some (.ref 80), some (.int x10)], [.ref 80], mT s)) rfl ?_
                          refine w_callL K (E := f_Parser_closeLine s) (g := fun (x233 : mS) => (none, mT x233)) rfl (m_Parser_closeLine (len := len) (xs := xs) (d + 0) s) (fun x233 => ?_)
                          refine w_go K 1 (c' := (223, [some (.ref 80), some (.int x10)], [], mT x233)) rfl ?_
                          exact w_ret K rfl (hK _)
                      · refine w_go K 2 (c' := (220, [some (.ref 80), some (.int x10)], [.int 1, .ref 80], mT s)) rfl ?_
                        refine w_callLT K (E := f_Parser_fail (1 : Int32) s) (g := fun (x234 : mS) => (none, mT x234)) rfl (m_Parser_fail (len := len) (xs := xs) (d + 2) (1 : Int32) s) (fun x234 => ?_)
                        refine w_go K 0 (c' := (223, [some (.ref 80), some (.int x10)], [], mT x234)) rfl ?_
                        exact w_ret K rfl (hK _)
                  · refine w_go K 3 (c' := (200, [some (.ref 80), some (.int x10)], [.int 16, .int (gI s 80 3)], mT s)) rfl ?_
                    refine w_ine K rfl (fun _ => ?_) (fun _ => ?_)
                    · refine w_go K 3 (c' := (208, [some (.ref 80), some (.int x10)], [.int 1, .int (gI s 80 8)], mT s)) rfl ?_
                      refine w_ieq K rfl (fun _ => ?_) (fun _ => ?_)
                      · refine w_go K 2 (c' := (220, [some (.ref 80), some (.int x10)], [.int 1, .ref 80], mT s)) rfl ?_
                        refine w_callLT K (E := f_Parser_fail (1 : Int32) s) (g := fun (x235 : mS) => (none, mT x235)) rfl (m_Parser_fail (len := len) (xs := xs) (d + 2) (1 : Int32) s) (fun x235 => ?_)
                        refine w_go K 0 (c' := (223, [some (.ref 80), some (.int x10)], [], mT x235)) rfl ?_
                        exact w_ret K rfl (hK _)
                      · refine w_go K 1 (c' := (212, [some (.ref 80), some (.int x10)], [.ref 80], mT s)) rfl ?_
                        refine w_callL K (E := f_Parser_closeLine s) (g := fun (x236 : mS) => (none, mT x236)) rfl (m_Parser_closeLine (len := len) (xs := xs) (d + 0) s) (fun x236 => ?_)
                        refine w_go K 1 (c' := (223, [some (.ref 80), some (.int x10)], [], mT x236)) rfl ?_
                        exact w_ret K rfl (hK _)
                    · refine w_go K 2 (c' := (220, [some (.ref 80), some (.int x10)], [.int 1, .ref 80], mT s)) rfl ?_
                      refine w_callLT K (E := f_Parser_fail (1 : Int32) s) (g := fun (x237 : mS) => (none, mT x237)) rfl (m_Parser_fail (len := len) (xs := xs) (d + 2) (1 : Int32) s) (fun x237 => ?_)
                      refine w_go K 0 (c' := (223, [some (.ref 80), some (.int x10)], [], mT x237)) rfl ?_
                      exact w_ret K rfl (hK _)
                · refine w_go K 1 (c' := (152, [some (.ref 80), some (.int x10)], [.ref 80], mT s)) rfl ?_
                  refine w_callL K (E := f_Parser_closeBracket s) (g := fun (x238 : mS) => (none, mT x238)) rfl (m_Parser_closeBracket (len := len) (xs := xs) (d + 0) s) (fun x238 => ?_)
                  refine w_go K 1 (c' := (223, [some (.ref 80), some (.int x10)], [], mT x238)) rfl ?_
                  exact w_ret K rfl (hK _)
              · refine w_go K 3 (c' := (164, [some (.ref 80), some (.int x10)], [.int 12, .int (gI s 80 3)], mT s)) rfl ?_
                refine w_ine K rfl (fun _ => ?_) (fun _ => ?_)
                · refine w_go K 2 (c' := (171, [some (.ref 80), some (.int x10)], [.int (gI s 80 8)], mT s)) rfl ?_
                  refine w_zne K rfl (fun _ => ?_) (fun _ => ?_)
                  · refine w_go K 2 (c' := (176, [some (.ref 80), some (.int x10)], [.int 1, .ref 80], mT s)) rfl ?_
                    refine w_callL K (E := f_Parser_unwind (1 : Int32) s) (g := fun (x239 : mS) => (none, mT x239)) rfl (m_Parser_unwind (len := len) (xs := xs) (d + 1) (1 : Int32) s) (fun x239 => ?_)
                    refine w_go K 1 (c' := (180, [some (.ref 80), some (.int x10)], [.ref 80], mT x239)) rfl ?_
                    refine w_gP4 K rfl (fun r240 hr240 => ?_)
                    refine w_go K 0 (c' := (183, [some (.ref 80), some (.int x10)], [.ref r240], mT x239)) rfl ?_
                    refine w_callL K (E := f_Act_beginCondition r240 x239) (g := fun (x241 : mS) => (none, mT x241)) (st_c (b := 1) (st := [.ref r240]) (args := []) (rest := []) rfl rfl rfl hr240) (m_Act_beginCondition (len := len) (xs := xs) r240 hr240 (d + 2) x239) (fun x241 => ?_)
                    refine w_go K 4 (c' := (223, [some (.ref 80), some (.int x10)], [], mT (sI x241 80 7 3))) rfl ?_
                    exact w_ret K rfl (hK _)
                  · refine w_go K 3 (c' := (200, [some (.ref 80), some (.int x10)], [.int 16, .int (gI s 80 3)], mT s)) rfl ?_
                    refine w_ine K rfl (fun _ => ?_) (fun _ => ?_)
                    · refine w_go K 3 (c' := (208, [some (.ref 80), some (.int x10)], [.int 1, .int (gI s 80 8)], mT s)) rfl ?_
                      refine w_ieq K rfl (fun _ => ?_) (fun _ => ?_)
                      · refine w_go K 2 (c' := (220, [some (.ref 80), some (.int x10)], [.int 1, .ref 80], mT s)) rfl ?_
                        refine w_callLT K (E := f_Parser_fail (1 : Int32) s) (g := fun (x242 : mS) => (none, mT x242)) rfl (m_Parser_fail (len := len) (xs := xs) (d + 2) (1 : Int32) s) (fun x242 => ?_)
                        refine w_go K 0 (c' := (223, [some (.ref 80), some (.int x10)], [], mT x242)) rfl ?_
                        exact w_ret K rfl (hK _)
                      · refine w_go K 1 (c' := (212, [some (.ref 80), some (.int x10)], [.ref 80], mT s)) rfl ?_
                        refine w_callL K (E := f_Parser_closeLine s) (g := fun (x243 : mS) => (none, mT x243)) rfl (m_Parser_closeLine (len := len) (xs := xs) (d + 0) s) (fun x243 => ?_)
                        refine w_go K 1 (c' := (223, [some (.ref 80), some (.int x10)], [], mT x243)) rfl ?_
                        exact w_ret K rfl (hK _)
                    · refine w_go K 2 (c' := (220, [some (.ref 80), some (.int x10)], [.int 1, .ref 80], mT s)) rfl ?_
                      refine w_callLT K (E := f_Parser_fail (1 : Int32) s) (g := fun (x244 : mS) => (none, mT x244)) rfl (m_Parser_fail (len := len) (xs := xs) (d + 2) (1 : Int32) s) (fun x244 => ?_)
                      refine w_go K 0 (c' := (223, [some (.ref 80), some (.int x10)], [], mT x244)) rfl ?_
                      exact w_ret K rfl (hK _)
                · refine w_go K 3 (c' := (200, [some (.ref 80), some (.int x10)], [.int 16, .int (gI s 80 3)], mT s)) rfl ?_
                  refine w_ine K rfl (fun _ => ?_) (fun _ => ?_)
                  · refine w_go K 3 (c' := (208, [some (.ref 80), some (.int x10)], [.int 1, .int (gI s 80 8)], mT s)) rfl ?_
                    refine w_ieq K rfl (fun _ => ?_) (fun _ => ?_)
                    · refine w_go K 2 (c' := (220, [some (.ref 80), some (.int x10)], [.int 1, .ref 80], mT s)) rfl ?_
                      refine w_callLT K (E := f_Parser_fail (1 : Int32) s) (g := fun (x245 : mS) => (none, mT x245)) rfl (m_Parser_fail (len := len) (xs := xs) (d + 2) (1 : Int32) s) (fun x245 => ?_)
                      refine w_go K 0 (c' := (223, [some (.ref 80), some (.int x10)], [], mT x245)) rfl ?_
                      exact w_ret K rfl (hK _)
                    · refine w_go K 1 (c' := (212, [some (.ref 80), some (.int x10)], [.ref 80], mT s)) rfl ?_
                      refine w_callL K (E := f_Parser_closeLine s) (g := fun (x246 : mS) => (none, mT x246)) rfl (m_Parser_closeLine (len := len) (xs := xs) (d + 0) s) (fun x246 => ?_)
                      refine w_go K 1 (c' := (223, [some (.ref 80), some (.int x10)], [], mT x246)) rfl ?_
                      exact w_ret K rfl (hK _)
                  · refine w_go K 2 (c' := (220, [some (.ref 80), some (.int x10)], [.int 1, .ref 80], mT s)) rfl ?_
                    refine w_callLT K (E := f_Parser_fail (1 : Int32) s) (g := fun (x247 : mS) => (none, mT x247)) rfl (m_Parser_fail (len := len) (xs := xs) (d + 2) (1 : Int32) s) (fun x247 => ?_)
                    refine w_go K 0 (c' := (223, [some (.ref 80), some (.int x10)], [], mT x247)) rfl ?_
                    exact w_ret K rfl (hK _)
        · refine w_go K 3 (c' := (84, [some (.ref 80), some (.int x10)], [.int 25, .int (gI s 80 3)], mT s)) rfl ?_
          refine w_igt K rfl (fun _ => ?_) (fun _ => ?_)
          · refine w_go K 3 (c' := (114, [some (.ref 80), some (.int x10)], [.int 14, .int (gI s 80 3)], mT s)) rfl ?_
            refine w_ieq K rfl (fun _ => ?_) (fun _ => ?_)
            · refine w_go K 1 (c' := (127, [some (.ref 80), some (.int x10)], [.int x10], mT s)) rfl ?_
              refine w_zeq K rfl (fun _ => ?_) (fun _ => ?_)
              · refine w_go K 3 (c' := (144, [some (.ref 80), some (.int x10)], [.int 22, .int (gI s 80 3)], mT s)) rfl ?_
                refine w_ine K rfl (fun _ => ?_) (fun _ => ?_)
                · refine w_go K 1 (c' := (148, [some (.ref 80), some (.int x10)], [.int x10], mT s)) rfl ?_
                  refine w_zeq K rfl (fun _ => ?_) (fun _ => ?_)
                  · refine w_go K 3 (c' := (164, [some (.ref 80), some (.int x10)], [.int 12, .int (gI s 80 3)], mT s)) rfl ?_
                    refine w_ine K rfl (fun _ => ?_) (fun _ => ?_)
                    · refine w_go K 2 (c' := (171, [some (.ref 80), some (.int x10)], [.int (gI s 80 8)], mT s)) rfl ?_
                      refine w_zne K rfl (fun _ => ?_) (fun _ => ?_)
                      · refine w_go K 2 (c' := (176, [some (.ref 80), some (.int x10)], [.int 1, .ref 80], mT s)) rfl ?_
                        refine w_callL K (E := f_Parser_unwind (1 : Int32) s) (g := fun (x248 : mS) => (none, mT x248)) rfl (m_Parser_unwind (len := len) (xs := xs) (d + 1) (1 : Int32) s) (fun x248 => ?_)
                        refine w_go K 1 (c' := (180, [some (.ref 80), some (.int x10)], [.ref 80], mT x248)) rfl ?_
                        refine w_gP4 K rfl (fun r249 hr249 => ?_)
                        refine w_go K 0 (c' := (183, [some (.ref 80), some (.int x10)], [.ref r249], mT x248)) rfl ?_
                        refine w_callL K (E := f_Act_beginCondition r249 x248) (g := fun (x250 : mS) => (none, mT x250)) (st_c (b := 1) (st := [.ref r249]) (args := []) (rest := []) rfl rfl rfl hr249) (m_Act_beginCondition (len := len) (xs := xs) r249 hr249 (d + 2) x248) (fun x250 => ?_)
                        refine w_go K 4 (c' := (223, [some (.ref 80), some (.int x10)], [], mT (sI x250 80 7 3))) rfl ?_
                        exact w_ret K rfl (hK _)
                      · refine w_go K 3 (c' := (200, [some (.ref 80), some (.int x10)], [.int 16, .int (gI s 80 3)], mT s)) rfl ?_
                        refine w_ine K rfl (fun _ => ?_) (fun _ => ?_)
                        · refine w_go K 3 (c' := (208, [some (.ref 80), some (.int x10)], [.int 1, .int (gI s 80 8)], mT s)) rfl ?_
                          refine w_ieq K rfl (fun _ => ?_) (fun _ => ?_)
                          · refine w_go K 2 (c' := (220, [some (.ref 80), some (.int x10)], [.int 1, .ref 80], mT s)) rfl ?_
                            refine w_callLT K (E := f_Parser_fail (1 : Int32) s) (g := fun (x251 : mS) => (none, mT x251)) rfl (m_Parser_fail (len := len) (xs := xs) (d + 2) (1 : Int32) s) (fun x251 => ?_)
                            refine w_go K 0 (c' := (223, [some (.ref 80), some (.int x10)], [], mT x251)) rfl ?_
                            exact w_ret K rfl (hK _)
                          · refine w_go K 1 (c' := (212, [some (.ref 80), some (.int x10)], [.ref 80], mT s)) rfl ?_
                            refine w_callL K (E := f_Parser_closeLine s) (g := fun (x252 : mS) => (none, mT x252)) rfl (m_Parser_closeLine (len := len) (xs := xs) (d + 0) s) (fun x252 => ?_)
                            refine w_go K 1 (c' := (223, [some (.ref 80), some (.int x10)], [], mT x252)) rfl ?_
                            exact w_ret K rfl (hK _)
                        · refine w_go K 2 (c' := (220, [some (.ref 80), some (.int x10)], [.int 1, .ref 80], mT s)) rfl ?_
                          refine w_callLT K (E := f_Parser_fail (1 : Int32) s) (g := fun (x253 : mS) => (none, mT x253)) rfl (m_Parser_fail (len := len) (xs := xs) (d + 2) (1 : Int32) s) (fun x253 => ?_)
                          refine w_go K 0 (c' := (223, [some (.ref 80), some (.int x10)], [], mT x253)) rfl ?_
                          exact w_ret K rfl (hK _)
                    · refine w_go K 3 (c' := (200, [some (.ref 80), some (.int x10)], [.int 16, .int (gI s 80 3)], mT s)) rfl ?_
                      refine w_ine K rfl (fun _ => ?_) (fun _ => ?_)
                      · refine w_go K 3 (c' := (208, [some (.ref 80), some (.int x10)], [.int 1, .int (gI s 80 8)], mT s)) rfl ?_
                        refine w_ieq K rfl (fun _ => ?_) (fun _ => ?_)
                        · refine w_go K 2 (c' := (220, [some (.ref 80), some (.int x10)], [.int 1, .ref 80], mT s)) rfl ?_
                          refine w_callLT K (E := f_Parser_fail (1 : Int32) s) (g := fun (x254 : mS) => (none, mT x254)) rfl (m_Parser_fail (len := len) (xs := xs) (d + 2) (1 : Int32) s) (fun x254 => ?_)
                          refine w_go K 0 (c' := (223, [some (.ref 80), some (.int x10)], [], mT x254)) rfl ?_
                          exact w_ret K rfl (hK _)
                        · refine w_go K 1 (c' := (212, [some (.ref 80), some (.int x10)], [.ref 80], mT s)) rfl ?_
                          refine w_callL K (E := f_Parser_closeLine s) (g := fun (x255 : mS) => (none, mT x255)) rfl (m_Parser_closeLine (len := len) (xs := xs) (d + 0) s) (fun x255 => ?_)
                          refine w_go K 1 (c' := (223, [some (.ref 80), some (.int x10)], [], mT x255)) rfl ?_
                          exact w_ret K rfl (hK _)
                      · refine w_go K 2 (c' := (220, [some (.ref 80), some (.int x10)], [.int 1, .ref 80], mT s)) rfl ?_
                        refine w_callLT K (E := f_Parser_fail (1 : Int32) s) (g := fun (x256 : mS) => (none, mT x256)) rfl (m_Parser_fail (len := len) (xs := xs) (d + 2) (1 : Int32) s) (fun x256 => ?_)
                        refine w_go K 0 (c' := (223, [some (.ref 80), some (.int x10)], [], mT x256)) rfl ?_
                        exact w_ret K rfl (hK _)
                  · refine w_go K 1 (c' := (152, [some (.ref 80), some (.int x10)], [.ref 80], mT s)) rfl ?_
                    refine w_callL K (E := f_Parser_closeBracket s) (g := fun (x257 : mS) => (none, mT x257)) rfl (m_Parser_closeBracket (len := len) (xs := xs) (d + 0) s) (fun x257 => ?_)
                    refine w_go K 1 (c' := (223, [some (.ref 80), some (.int x10)], [], mT x257)) rfl ?_
                    exact w_ret K rfl (hK _)
                · refine w_go K 3 (c' := (164, [some (.ref 80), some (.int x10)], [.int 12, .int (gI s 80 3)], mT s)) rfl ?_
                  refine w_ine K rfl (fun _ => ?_) (fun _ => ?_)
                  · refine w_go K 2 (c' := (171, [some (.ref 80), some (.int x10)], [.int (gI s 80 8)], mT s)) rfl ?_
                    refine w_zne K rfl (fun _ => ?_) (fun _ => ?_)
                    · refine w_go K 2 (c' := (176, [some (.ref 80), some (.int x10)], [.int 1, .ref 80], mT s)) rfl ?_
                      refine w_callL K (E := f_Parser_unwind (1 : Int32) s) (g := fun (x258 : mS) => (none, mT x258)) rfl (m_Parser_unwind (len := len) (xs := xs) (d + 1) (1 : Int32) s) (fun x258 => ?_)
                      refine w_go K 1 (c' := (180, [some (.ref 80), some (.int x10)], [.ref 80], mT x258)) rfl ?_
                      refine w_gP4 K rfl (fun r259 hr259 => ?_)
                      refine w_go K 0 (c' := (183, [some (.ref 80), some (.int x10)], [.ref r259], mT x258)) rfl ?_
                      refine w_callL K (E := f_Act_beginCondition r259 x258) (g := fun (x260 : mS) => (none, mT x260)) (st_c (b := 1) (st := [.ref r259]) (args := []) (rest := []) rfl rfl rfl hr259) (m_Act_beginCondition (len := len) (xs := xs) r259 hr259 (d + 2) x258) (fun x260 => ?_)
                      refine w_go K 4 (c' := (223, [some (.ref 80), some (.int x10)], [], mT (sI x260 80 7 3))) rfl ?_
                      exact w_ret K rfl (hK _)
                    · refine w_go K 3 (c' := (200, [some (.ref 80), some (.int x10)], [.int 16, .int (gI s 80 3)], mT s)) rfl ?_
                      refine w_ine K rfl (fun _ => ?_) (fun _ => ?_)
                      · refine w_go K 3 (c' := (208, [some (.ref 80), some (.int x10)], [.int 1, .int (gI s 80 8)], mT s)) rfl ?_
                        refine w_ieq K rfl (fun _ => ?_) (fun _ => ?_)
                        · refine w_go K 2 (c' := (220, [some (.ref 80), some (.int x10)], [.int 1, .ref 80], mT s)) rfl ?_
                          refine w_callLT K (E := f_Parser_fail (1 : Int32) s) (g := fun (x261 : mS) => (none, mT x261)) rfl (m_Parser_fail (len := len) (xs := xs) (d + 2) (1 : Int32) s) (fun x261 => ?_)
                          refine w_go K 0 (c' := (223, [some (.ref 80), some (.int x10)], [], mT x261)) rfl ?_
                          exact w_ret K rfl (hK _)
                        · refine w_go K 1 (c' := (212, [some (.ref 80), some (.int x10)], [.ref 80], mT s)) rfl ?_
                          refine w_callL K (E := f_Parser_closeLine s) (g := fun (x262 : mS) => (none, mT x262)) rfl (m_Parser_closeLine (len := len) (xs := xs) (d + 0) s) (fun x262 => ?_)
                          refine w_go K 1 (c' := (223, [some (.ref 80), some (.int x10)], [], mT x262)) rfl ?_
                          exact w_ret K rfl (hK _)
                      · refine w_go K 2 (c' := (220, [some (.ref 80), some (.int x10)], [.int 1, .ref 80], mT s)) rfl ?_
                        refine w_callLT K (E := f_Parser_fail (1 : Int32) s) (g := fun (x263 : mS) => (none, mT x263)) rfl (m_Parser_fail (len := len) (xs := xs) (d + 2) (1 : Int32) s) (fun x263 => ?_)
                        refine w_go K 0 (c' := (223, [some (.ref 80), some (.int x10)], [], mT x263)) rfl ?_
                        exact w_ret K rfl (hK _)
                  · refine w_go K 3 (c' := (200, [some (.ref 80), some (.int x10)], [.int 16, .int (gI s 80 3)], mT s)) rfl ?_
                    refine w_ine K rfl (fun _ => ?_) (fun _ => ?_)
                    · refine w_go K 3 (c' := (208, [some (.ref 80), some (.int x10)], [.int 1, .int (gI s 80 8)], mT s)) rfl ?_
                      refine w_ieq K rfl (fun _ => ?_) (fun _ => ?_)
                      · refine w_go K 2 (c' := (220, [some (.ref 80), some (.int x10)], [.int 1, .ref 80], mT s)) rfl ?_
                        refine w_callLT K (E := f_Parser_fail (1 : Int32) s) (g := fun (x264 : mS) => (none, mT x264)) rfl (m_Parser_fail (len := len) (xs := xs) (d + 2) (1 : Int32) s) (fun x264 => ?_)
                        refine w_go K 0 (c' := (223, [some (.ref 80), some (.int x10)], [], mT x264)) rfl ?_
                        exact w_ret K rfl (hK _)
                      · refine w_go K 1 (c' := (212, [some (.ref 80), some (.int x10)], [.ref 80], mT s)) rfl ?_
                        refine w_callL K (E := f_Parser_closeLine s) (g := fun (x265 : mS) => (none, mT x265)) rfl (m_Parser_closeLine (len := len) (xs := xs) (d + 0) s) (fun x265 => ?_)
                        refine w_go K 1 (c' := (223, [some (.ref 80), some (.int x10)], [], mT x265)) rfl ?_
                        exact w_ret K rfl (hK _)
                    · refine w_go K 2 (c' := (220, [some (.ref 80), some (.int x10)], [.int 1, .ref 80], mT s)) rfl ?_
                      refine w_callLT K (E := f_Parser_fail (1 : Int32) s) (g := fun (x266 : mS) => (none, mT x266)) rfl (m_Parser_fail (len := len) (xs := xs) (d + 2) (1 : Int32) s) (fun x266 => ?_)
                      refine w_go K 0 (c' := (223, [some (.ref 80), some (.int x10)], [], mT x266)) rfl ?_
                      exact w_ret K rfl (hK _)
              · refine w_go K 2 (c' := (132, [some (.ref 80), some (.int x10)], [.int 3, .ref 80], mT s)) rfl ?_
                refine w_callL K (E := f_Parser_operate (3 : Int32) s) (g := fun (x267 : mS) => (none, mT x267)) rfl (m_Parser_operate (len := len) (xs := xs) (d + 0) (3 : Int32) s) (fun x267 => ?_)
                refine w_go K 1 (c' := (223, [some (.ref 80), some (.int x10)], [], mT x267)) rfl ?_
                exact w_ret K rfl (hK _)
            · refine w_go K 3 (c' := (123, [some (.ref 80), some (.int x10)], [.int 13, .int (gI s 80 3)], mT s)) rfl ?_
              refine w_ine K rfl (fun _ => ?_) (fun _ => ?_)
              · refine w_go K 1 (c' := (127, [some (.ref 80), some (.int x10)], [.int x10], mT s)) rfl ?_
                refine w_zeq K rfl (fun _ => ?_) (fun _ => ?_)
                · refine w_go K 3 (c' := (144, [some (.ref 80), some (.int x10)], [.int 22, .int (gI s 80 3)], mT s)) rfl ?_
                  refine w_ine K rfl (fun _ => ?_) (fun _ => ?_)
                  · refine w_go K 1 (c' := (148, [some (.ref 80), some (.int x10)], [.int x10], mT s)) rfl ?_
                    refine w_zeq K rfl (fun _ => ?_) (fun _ => ?_)
                    · refine w_go K 3 (c' := (164, [some (.ref 80), some (.int x10)], [.int 12, .int (gI s 80 3)], mT s)) rfl ?_
                      refine w_ine K rfl (fun _ => ?_) (fun _ => ?_)
                      · refine w_go K 2 (c' := (171, [some (.ref 80), some (.int x10)], [.int (gI s 80 8)], mT s)) rfl ?_
                        refine w_zne K rfl (fun _ => ?_) (fun _ => ?_)
                        · refine w_go K 2 (c' := (176, [some (.ref 80), some (.int x10)], [.int 1, .ref 80], mT s)) rfl ?_
                          refine w_callL K (E := f_Parser_unwind (1 : Int32) s) (g := fun (x268 : mS) => (none, mT x268)) rfl (m_Parser_unwind (len := len) (xs := xs) (d + 1) (1 : Int32) s) (fun x268 => ?_)
                          refine w_go K 1 (c' := (180, [some (.ref 80), some (.int x10)], [.ref 80], mT x268)) rfl ?_
                          refine w_gP4 K rfl (fun r269 hr269 => ?_)
                          refine w_go K 0 (c' := (183, [some (.ref 80), some (.int x10)], [.ref r269], mT x268)) rfl ?_
                          refine w_callL K (E := f_Act_beginCondition r269 x268) (g := fun (x270 : mS) => (none, mT x270)) (st_c (b := 1) (st := [.ref r269]) (args := []) (rest := []) rfl rfl rfl hr269) (m_Act_beginCondition (len := len) (xs := xs) r269 hr269 (d + 2) x268) (fun x270 => ?_)
                          refine w_go K 4 (c' := (223, [some (.ref 80), some (.int x10)], [], mT (sI x270 80 7 3))) rfl ?_
                          exact w_ret K rfl (hK _)
                        · refine w_go K 3 (c' := (200, [some (.ref 80), some (.int x10)], [.int 16, .int (gI s 80 3)], mT s)) rfl ?_
                          refine w_ine K rfl (fun _ => ?_) (fun _ => ?_)
                          · refine w_go K 3 (c' := (208, [some (.ref 80), some (.int x10)], [.int 1, .int (gI s 80 8)], mT s)) rfl ?_
                            refine w_ieq K rfl (fun _ => ?_) (fun _ => ?_)
                            · refine w_go K 2 (c' := (220, [some (.ref 80), some (.int x10)], [.int 1, .ref 80], mT s)) rfl ?_
                              refine w_callLT K (E := f_Parser_fail (1 : Int32) s) (g := fun (x271 : mS) => (none, mT x271)) rfl (m_Parser_fail (len := len) (xs := xs) (d + 2) (1 : Int32) s) (fun x271 => ?_)
                              refine w_go K 0 (c' := (223, [some (.ref 80), some (.int x10)], [], mT x271)) rfl ?_
                              exact w_ret K rfl (hK _)
                            · refine w_go K 1 (c' := (212, [some (.ref 80), some (.int x10)], [.ref 80], mT s)) rfl ?_
                              refine w_callL K (E := f_Parser_closeLine s) (g := fun (x272 : mS) => (none, mT x272)) rfl (m_Parser_closeLine (len := len) (xs := xs) (d + 0) s) (fun x272 => ?_)
                              refine w_go K 1 (c' := (223, [some (.ref 80), some (.int x10)], [], mT x272)) rfl ?_
                              exact w_ret K rfl (hK _)
                          · refine w_go K 2 (c' := (220, [some (.ref 80), some (.int x10)], [.int 1, .ref 80], mT s)) rfl ?_
                            refine w_callLT K (E := f_Parser_fail (1 : Int32) s) (g := fun (x273 : mS) => (none, mT x273)) rfl (m_Parser_fail (len := len) (xs := xs) (d + 2) (1 : Int32) s) (fun x273 => ?_)
                            refine w_go K 0 (c' := (223, [some (.ref 80), some (.int x10)], [], mT x273)) rfl ?_
                            exact w_ret K rfl (hK _)
                      · refine w_go K 3 (c' := (200, [some (.ref 80), some (.int x10)], [.int 16, .int (gI s 80 3)], mT s)) rfl ?_
                        refine w_ine K rfl (fun _ => ?_) (fun _ => ?_)
                        · refine w_go K 3 (c' := (208, [some (.ref 80), some (.int x10)], [.int 1, .int (gI s 80 8)], mT s)) rfl ?_
                          refine w_ieq K rfl (fun _ => ?_) (fun _ => ?_)
                          · refine w_go K 2 (c' := (220, [some (.ref 80), some (.int x10)], [.int 1, .ref 80], mT s)) rfl ?_
                            refine w_callLT K (E := f_Parser_fail (1 : Int32) s) (g := fun (x274 : mS) => (none, mT x274)) rfl (m_Parser_fail (len := len) (xs := xs) (d + 2) (1 : Int32) s) (fun x274 => ?_)
                            refine w_go K 0 (c' := (223, [some (.ref 80), some (.int x10)], [], mT x274)) rfl ?_
                            exact w_ret K rfl (hK _)
                          · refine w_go K 1 (c' := (212, [some (.ref 80), some (.int x10)], [.ref 80], mT s)) rfl ?_
                            refine w_callL K (E := f_Parser_closeLine s) (g := fun (x275 : mS) => (none, mT x275)) rfl (m_Parser_closeLine (len := len) (xs := xs) (d + 0) s) (fun x275 => ?_)
                            refine w_go K 1 (c' := (223, [some (.ref 80), some (.int x10)], [], mT x275)) rfl ?_
                            exact w_ret K rfl (hK _)
                        · refine w_go K 2 (c' := (220, [some (.ref 80), some (.int x10)], [.int 1, .ref 80], mT s)) rfl ?_
                          refine w_callLT K (E := f_Parser_fail (1 : Int32) s) (g := fun (x276 : mS) => (none, mT x276)) rfl (m_Parser_fail (len := len) (xs := xs) (d + 2) (1 : Int32) s) (fun x276 => ?_)
                          refine w_go K 0 (c' := (223, [some (.ref 80), some (.int x10)], [], mT x276)) rfl ?_
                          exact w_ret K rfl (hK _)
                    · refine w_go K 1 (c' := (152, [some (.ref 80), some (.int x10)], [.ref 80], mT s)) rfl ?_
                      refine w_callL K (E := f_Parser_closeBracket s) (g := fun (x277 : mS) => (none, mT x277)) rfl (m_Parser_closeBracket (len := len) (xs := xs) (d + 0) s) (fun x277 => ?_)
                      refine w_go K 1 (c' := (223, [some (.ref 80), some (.int x10)], [], mT x277)) rfl ?_
                      exact w_ret K rfl (hK _)
                  · refine w_go K 3 (c' := (164, [some (.ref 80), some (.int x10)], [.int 12, .int (gI s 80 3)], mT s)) rfl ?_
                    refine w_ine K rfl (fun _ => ?_) (fun _ => ?_)
                    · refine w_go K 2 (c' := (171, [some (.ref 80), some (.int x10)], [.int (gI s 80 8)], mT s)) rfl ?_
                      refine w_zne K rfl (fun _ => ?_) (fun _ => ?_)
                      · refine w_go K 2 (c' := (176, [some (.ref 80), some (.int x10)], [.int 1, .ref 80], mT s)) rfl ?_
                        refine w_callL K (E := f_Parser_unwind (1 : Int32) s) (g := fun (x278 : mS) => (none, mT x278)) rfl (m_Parser_unwind (len := len) (xs := xs) (d + 1) (1 : Int32) s) (fun x278 => ?_)
                        refine w_go K 1 (c' := (180, [some (.ref 80), some (.int x10)], [.ref 80], mT x278)) rfl ?_
                        refine w_gP4 K rfl (fun r279 hr279 => ?_)
                        refine w_go K 0 (c' := (183, [some (.ref 80), some (.int x10)], [.ref r279], mT x278)) rfl ?_
                        refine w_callL K (E := f_Act_beginCondition r279 x278) (g := fun (x280 : mS) => (none, mT x280)) (st_c (b := 1) (st := [.ref r279]) (args := []) (rest := []) rfl rfl rfl hr279) (m_Act_beginCondition (len := len) (xs := xs) r279 hr279 (d + 2) x278) (fun x280 => ?_)
                        refine w_go K 4 (c' := (223, [some (.ref 80), some (.int x10)], [], mT (sI x280 80 7 3))) rfl ?_
                        exact w_ret K rfl (hK _)
                      · refine w_go K 3 (c' := (200, [some (.ref 80), some (.int x10)], [.int 16, .int (gI s 80 3)], mT s)) rfl ?_
                        refine w_ine K rfl (fun _ => ?_) (fun _ => ?_)
                        · refine w_go K 3 (c' := (208, [some (.ref 80), some (.int x10)], [.int 1, .int (gI s 80 8)], mT s)) rfl ?_
                          refine w_ieq K rfl (fun _ => ?_) (fun _ => ?_)
                          · refine w_go K 2 (c' := (220, [some (.ref 80), some (.int x10)], [.int 1, .ref 80], mT s)) rfl ?_
                            refine w_callLT K (E := f_Parser_fail (1 : Int32) s) (g := fun (x281 : mS) => (none, mT x281)) rfl (m_Parser_fail (len := len) (xs := xs) (d + 2) (1 : Int32) s) (fun x281 => ?_)
                            refine w_go K 0 (c' := (223, [some (.ref 80), some (.int x10)], [], mT x281)) rfl ?_
                            exact w_ret K rfl (hK _)
                          · refine w_go K 1 (c' := (212, [some (.ref 80), some (.int x10)], [.ref 80], mT s)) rfl ?_
                            refine w_callL K (E := f_Parser_closeLine s) (g := fun (x282 : mS) => (none, mT x282)) rfl (m_Parser_closeLine (len := len) (xs := xs) (d + 0) s) (fun x282 => ?_)
                            refine w_go K 1 (c' := (223, [some (.ref 80), some (.int x10)], [], mT x282)) rfl ?_
                            exact w_ret K rfl (hK _)
                        · refine w_go K 2 (c' := (220, [some (.ref 80), some (.int x10)], [.int 1, .ref 80], mT s)) rfl ?_
                          refine w_callLT K (E := f_Parser_fail (1 : Int32) s) (g := fun (x283 : mS) => (none, mT x283)) rfl (m_Parser_fail (len := len) (xs := xs) (d + 2) (1 : Int32) s) (fun x283 => ?_)
                          refine w_go K 0 (c' := (223, [some (.ref 80), some (.int x10)], [], mT x283)) rfl ?_
                          exact w_ret K rfl (hK _)
                    · refine w_go K 3 (c' := (200, [some (.ref 80), some (.int x10)], [.int 16, .int (gI s 80 3)], mT s)) rfl ?_
                      refine w_ine K rfl (fun _ => ?_) (fun _ => ?_)
                      · refine w_go K 3 (c' := (208, [some (.ref 80), some (.int x10)], [.int 1, .int (gI s 80 8)], mT s)) rfl ?_
                        refine w_ieq K rfl (fun _ => ?_) (fun _ => ?_)
                        · refine w_go K 2 (c' := (220, [some (.ref 80), some (.int x10)], [.int 1, .ref 80], mT s)) rfl ?_
                          refine w_callLT K (E := f_Parser_fail (1 : Int32) s) (g := fun (x284 : mS) => (none, mT x284)) rfl (m_Parser_fail (len := len) (xs := xs) (d + 2) (1 : Int32) s) (fun x284 => ?_)
                          refine w_go K 0 (c' := (223, [some (.ref 80), some (.int x10)], [], mT x284)) rfl ?_
                          exact w_ret K rfl (hK _)
                        · refine w_go K 1 (c' := (212, [some (.ref 80), some (.int x10)], [.ref 80], mT s)) rfl ?_
                          refine w_callL K (E := f_Parser_closeLine s) (g := fun (x285 : mS) => (none, mT x285)) rfl (m_Parser_closeLine (len := len) (xs := xs) (d + 0) s) (fun x285 => ?_)
                          refine w_go K 1 (c' := (223, [some (.ref 80), some (.int x10)], [], mT x285)) rfl ?_
                          exact w_ret K rfl (hK _)
                      · refine w_go K 2 (c' := (220, [some (.ref 80), some (.int x10)], [.int 1, .ref 80], mT s)) rfl ?_
                        refine w_callLT K (E := f_Parser_fail (1 : Int32) s) (g := fun (x286 : mS) => (none, mT x286)) rfl (m_Parser_fail (len := len) (xs := xs) (d + 2) (1 : Int32) s) (fun x286 => ?_)
                        refine w_go K 0 (c' := (223, [some (.ref 80), some (.int x10)], [], mT x286)) rfl ?_
                        exact w_ret K rfl (hK _)
                · refine w_go K 2 (c' := (132, [some (.ref 80), some (.int x10)], [.int 3, .ref 80], mT s)) rfl ?_
                  refine w_callL K (E := f_Parser_operate (3 : Int32) s) (g := fun (x287 : mS) => (none, mT x287)) rfl (m_Parser_operate (len := len) (xs := xs) (d + 0) (3 : Int32) s) (fun x287 => ?_)
                  refine w_go K 1 (c' := (223, [some (.ref 80), some (.int x10)], [], mT x287)) rfl ?_
                  exact w_ret K rfl (hK _)
              · refine w_go K 3 (c' := (144, [some (.ref 80), some (.int x10)], [.int 22, .int (gI s 80 3)], mT s)) rfl ?_
                refine w_ine K rfl (fun _ => ?_) (fun _ => ?_)
                · refine w_go K 1 (c' := (148, [some (.ref 80), some (.int x10)], [.int x10], mT s)) rfl ?_
                  refine w_zeq K rfl (fun _ => ?_) (fun _ => ?_)
                  · refine w_go K 3 (c' := (164, [some (.ref 80), some (.int x10)], [.int 12, .int (gI s 80 3)], mT s)) rfl ?_
                    refine w_ine K rfl (fun _ => ?_) (fun _ => ?_)
                    · refine w_go K 2 (c' := (171, [some (.ref 80), some (.int x10)], [.int (gI s 80 8)], mT s)) rfl ?_
                      refine w_zne K rfl (fun _ => ?_) (fun _ => ?_)
                      · refine w_go K 2 (c' := (176, [some (.ref 80), some (.int x10)], [.int 1, .ref 80], mT s)) rfl ?_
                        refine w_callL K (E := f_Parser_unwind (1 : Int32) s) (g := fun (x288 : mS) => (none, mT x288)) rfl (m_Parser_unwind (len := len) (xs := xs) (d + 1) (1 : Int32) s) (fun x288 => ?_)
                        refine w_go K 1 (c' := (180, [some (.ref 80), some (.int x10)], [.ref 80], mT x288)) rfl ?_
                        refine w_gP4 K rfl (fun r289 hr289 => ?_)
                        refine w_go K 0 (c' := (183, [some (.ref 80), some (.int x10)], [.ref r289], mT x288)) rfl ?_
                        refine w_callL K (E := f_Act_beginCondition r289 x288) (g := fun (x290 : mS) => (none, mT x290)) (st_c (b := 1) (st := [.ref r289]) (args := []) (rest := []) rfl rfl rfl hr289) (m_Act_beginCondition (len := len) (xs := xs) r289 hr289 (d + 2) x288) (fun x290 => ?_)
                        refine w_go K 4 (c' := (223, [some (.ref 80), some (.int x10)], [], mT (sI x290 80 7 3))) rfl ?_
                        exact w_ret K rfl (hK _)
                      · refine w_go K 3 (c' := (200, [some (.ref 80), some (.int x10)], [.int 16, .int (gI s 80 3)], mT s)) rfl ?_
                        refine w_ine K rfl (fun _ => ?_) (fun _ => ?_)
                        · refine w_go K 3 (c' := (208, [some (.ref 80), some (.int x10)], [.int 1, .int (gI s 80 8)], mT s)) rfl ?_
                          refine w_ieq K rfl (fun _ => ?_) (fun _ => ?_)
                          · refine w_go K 2 (c' := (220, [some (.ref 80), some (.int x10)], [.int 1, .ref 80], mT s)) rfl ?_
                            refine w_callLT K (E := f_Parser_fail (1 : Int32) s) (g := fun (x291 : mS) => (none, mT x291)) rfl (m_Parser_fail (len := len) (xs := xs) (d + 2) (1 : Int32) s) (fun x291 => ?_)
                            refine w_go K 0 (c' := (223, [some (.ref 80), some (.int x10)], [], mT x291)) rfl ?_
                            exact w_ret K rfl (hK _)
                          · refine w_go K 1 (c' := (212, [some (.ref 80), some (.int x10)], [.ref 80], mT s)) rfl ?_
                            refine w_callL K (E := f_Parser_closeLine s) (g := fun (x292 : mS) => (none, mT x292)) rfl (m_Parser_closeLine (len := len) (xs := xs) (d + 0) s) (fun x292 => ?_)
                            refine w_go K 1 (c' := (223, [some (.ref 80), some (.int x10)], [], mT x292)) rfl ?_
                            exact w_ret K rfl (hK _)
                        · refine w_go K 2 (c' := (220, [some (.ref 80), some (.int x10)], [.int 1, .ref 80], mT s)) rfl ?_
                          refine w_callLT K (E := f_Parser_fail (1 : Int32) s) (g := fun (x293 : mS) => (none, mT x293)) rfl (m_Parser_fail (len := len) (xs := xs) (d + 2) (1 : Int32) s) (fun x293 => ?_)
                          refine w_go K 0 (c' := (223, [some (.ref 80), some (.int x10)], [], mT x293)) rfl ?_
                          exact w_ret K rfl (hK _)
                    · refine w_go K 3 (c' := (200, [some (.ref 80), some (.int x10)], [.int 16, .int (gI s 80 3)], mT s)) rfl ?_
                      refine w_ine K rfl (fun _ => ?_) (fun _ => ?_)
                      · refine w_go K 3 (c' := (208, [some (.ref 80), some (.int x10)], [.int 1, .int (gI s 80 8)], mT s)) rfl ?_
                        refine w_ieq K rfl (fun _ => ?_) (fun _ => ?_)
                        · refine w_go K 2 (c' := (220, [some (.ref 80), some (.int x10)], [.int 1, .ref 80], mT s)) rfl ?_
                          refine w_callLT K (E := f_Parser_fail (1 : Int32) s) (g := fun (x294 : mS) => (none, mT x294)) rfl (m_Parser_fail (len := len) (xs := xs) (d + 2) (1 : Int32) s) (fun x294 => ?_)
                          refine w_go K 0 (c' := (223, [some (.ref 80), some (.int x10)], [], mT x294)) rfl ?_
                          exact w_ret K rfl (hK _)
                        · refine w_go K 1 (c' := (212, [some (.ref 80), some (.int x10)], [.ref 80], mT s)) rfl ?_
                          refine w_callL K (E := f_Parser_closeLine s) (g := fun (x295 : mS) => (none, mT x295)) rfl (m_Parser_closeLine (len := len) (xs := xs) (d + 0) s) (fun x295 => ?_)
                          refine w_go K 1 (c' := (223, [some (.ref 80), some (.int x10)], [], mT x295)) rfl ?_
                          exact w_ret K rfl (hK _)
                      · refine w_go K 2 (c' := (220, [some (.ref 80), some (.int x10)], [.int 1, .ref 80], mT s)) rfl ?_
                        refine w_callLT K (E := f_Parser_fail (1 : Int32) s) (g := fun (x296 : mS) => (none, mT x296)) rfl (m_Parser_fail (len := len) (xs := xs) (d + 2) (1 : Int32) s) (fun x296 => ?_)
                        refine w_go K 0 (c' := (223, [some (.ref 80), some (.int x10)], [], mT x296)) rfl ?_
                        exact w_ret K rfl (hK _)
                  · refine w_go K 1 (c' := (152, [some (.ref 80), some (.int x10)], [.ref 80], mT s)) rfl ?_
                    refine w_callL K (E := f_Parser_closeBracket s) (g := fun (x297 : mS) => (none, mT x297)) rfl (m_Parser_closeBracket (len := len) (xs := xs) (d + 0) s) (fun x297 => ?_)
                    refine w_go K 1 (c' := (223, [some (.ref 80), some (.int x10)], [], mT x297)) rfl ?_
                    exact w_ret K rfl (hK _)
                · refine w_go K 3 (c' := (164, [some (.ref 80), some (.int x10)], [.int 12, .int (gI s 80 3)], mT s)) rfl ?_
                  refine w_ine K rfl (fun _ => ?_) (fun _ => ?_)
                  · refine w_go K 2 (c' := (171, [some (.ref 80), some (.int x10)], [.int (gI s 80 8)], mT s)) rfl ?_
                    refine w_zne K rfl (fun _ => ?_) (fun _ => ?_)
                    · refine w_go K 2 (c' := (176, [some (.ref 80), some (.int x10)], [.int 1, .ref 80], mT s)) rfl ?_
                      refine w_callL K (E := f_Parser_unwind (1 : Int32) s) (g := fun (x298 : mS) => (none, mT x298)) rfl (m_Parser_unwind (len := len) (xs := xs) (d + 1) (1 : Int32) s) (fun x298 => ?_)
                      refine w_go K 1 (c' := (180, [some (.ref 80), some (.int x10)], [.ref 80], mT x298)) rfl ?_
                      refine w_gP4 K rfl (fun r299 hr299 => ?_)
                      refine w_go K 0 (c' := (183, [some (.ref 80), some (.int x10)], [.ref r299], mT x298)) rfl ?_
                      refine w_callL K (E := f_Act_beginCondition r299 x298) (g := fun (x300 : mS) => (none, mT x300)) (st_c (b := 1) (st := [.ref r299]) (args := []) (rest := []) rfl rfl rfl hr299) (m_Act_beginCondition (len := len) (xs := xs) r299 hr299 (d + 2) x298) (fun x300 => ?_)
                      refine w_go K 4 (c' := (223, [some (.ref 80), some (.int x10)], [], mT (sI x300 80 7 3))) rfl ?_
                      exact w_ret K rfl (hK _)
                    · refine w_go K 3 (c' := (200, [some (.ref 80), some (.int x10)], [.int 16, .int (gI s 80 3)], mT s)) rfl ?_
                      refine w_ine K rfl (fun _ => ?_) (fun _ => ?_)
                      · refine w_go K 3 (c' := (208, [some (.ref 80), some (.int x10)], [.int 1, .int (gI s 80 8)], mT s)) rfl ?_
                        refine w_ieq K rfl (fun _ => ?_) (fun _ => ?_)
                        · refine w_go K 2 (c' := (220, [some (.ref 80), some (.int x10)], [.int 1, .ref 80], mT s)) rfl ?_
                          refine w_callLT K (E := f_Parser_fail (1 : Int32) s) (g := fun (x301 : mS) => (none, mT x301)) rfl (m_Parser_fail (len := len) (xs := xs) (d + 2) (1 : Int32) s) (fun x301 => ?_)
                          refine w_go K 0 (c' := (223, [some (.ref 80), some (.int x10)], [], mT x301)) rfl ?_
                          exact w_ret K rfl (hK _)
                        · refine w_go K 1 (c' := (212, [some (.ref 80), some (.int x10)], [.ref 80], mT s)) rfl ?_
                          refine w_callL K (E := f_Parser_closeLine s) (g := fun (x302 : mS) => (none, mT x302)) rfl (m_Parser_closeLine (len := len) (xs := xs) (d + 0) s) (fun x302 => ?_)
                          refine w_go K 1 (c' := (223, [some (.ref 80), some (.int x10)], [], mT x302)) rfl ?_
                          exact w_ret K rfl (hK _)
                      · refine w_go K 2 (c' := (220, [some (.ref 80), some (.int x10)], [.int 1, .ref 80], mT s)) rfl ?_
                        refine w_callLT K (E := f_Parser_fail (1 : Int32) s) (g := fun (x303 : mS) => (none, mT x303)) rfl (m_Parser_fail (len := len) (xs := xs) (d + 2) (1 : Int32) s) (fun x303 => ?_)
                        refine w_go K 0 (c' := (223, [some (.ref 80), some (.int x10)], [], mT x303)) rfl ?_
                        exact w_ret K rfl (hK _)
                  · refine w_go K 3 (c' := (200, [some (.ref 80), some (.int x10)], [.int 16, .int (gI s 80 3)], mT s)) rfl ?_
                    refine w_ine K rfl (fun _ => ?_) (fun _ => ?_)
                    · refine w_go K 3 (c' := (208, [some (.ref 80), some (.int x10)], [.int 1, .int (gI s 80 8)], mT s)) rfl ?_
                      refine w_ieq K rfl (fun _ => ?_) (fun _ => ?_)
                      · refine w_go K 2 (c' := (220, [some (.ref 80), some (.int x10)], [.int 1, .ref 80], mT s)) rfl ?_
                        refine w_callLT K (E := f_Parser_fail (1 : Int32) s) (g := fun (x304 : mS) => (none, mT x304)) rfl (m_Parser_fail (len := len) (xs := xs) (d + 2) (1 : Int32) s) (fun x304 => ?_)
                        refine w_go K 0 (c' := (223, [some (.ref 80), some (.int x10)], [], mT x304)) rfl ?_
                        exact w_ret K rfl (hK _)
                      · refine w_go K 1 (c' := (212, [some (.ref 80), some (.int x10)], [.ref 80], mT s)) rfl ?_
                        refine w_callL K (E := f_Parser_closeLine s) (g := fun (x305 : mS) => (none, mT x305)) rfl (m_Parser_closeLine (len := len) (xs := xs) (d + 0) s) (fun x305 => ?_)
                        refine w_go K 1 (c' := (223, [some (.ref 80), some (.int x10)], [], mT x305)) rfl ?_
                        exact w_ret K rfl (hK _)
                    · refine w_go K 2 (c' := (220, [some (.ref 80), some (.int x10)], [.int 1, .ref 80], mT s)) rfl ?_
                      refine w_callLT K (E := f_Parser_fail (1 : Int32) s) (g := fun (x306 : mS) => (none, mT x306)) rfl (m_Parser_fail (len := len) (xs := xs) (d + 2) (1 : Int32) s) (fun x306 => ?_)
                      refine w_go K 0 (c' := (223, [some (.ref 80), some (.int x10)], [], mT x306)) rfl ?_
                      exact w_ret K rfl (hK _)
          · refine w_go K 3 (c' := (92, [some (.ref 80), some (.int x10)], [.int 1, .int (gI s 80 8)], mT s)) rfl ?_
            refine w_ine K rfl (fun _ => ?_) (fun _ => ?_)
            · refine w_go K 2 (c' := (97, [some (.ref 80), some (.int x10)], [.int 1, .ref 80], mT s)) rfl ?_
              refine w_callL K (E := f_Parser_operate (1 : Int32) s) (g := fun (x307 : mS) => (none, mT x307)) rfl (m_Parser_operate (len := len) (xs := xs) (d + 0) (1 : Int32) s) (fun x307 => ?_)
              refine w_go K 4 (c' := (223, [some (.ref 80), some (.int x10)], [], mT (sI x307 80 8 2))) rfl ?_
              exact w_ret K rfl (hK _)
            · refine w_go K 3 (c' := (114, [some (.ref 80), some (.int x10)], [.int 14, .int (gI s 80 3)], mT s)) rfl ?_
              refine w_ieq K rfl (fun _ => ?_) (fun _ => ?_)
              · refine w_go K 1 (c' := (127, [some (.ref 80), some (.int x10)], [.int x10], mT s)) rfl ?_
                refine w_zeq K rfl (fun _ => ?_) (fun _ => ?_)
                · refine w_go K 3 (c' := (144, [some (.ref 80), some (.int x10)], [.int 22, .int (gI s 80 3)], mT s)) rfl ?_
                  refine w_ine K rfl (fun _ => ?_) (fun _ => ?_)
                  · refine w_go K 1 (c' := (148, [some (.ref 80), some (.int x10)], [.int x10], mT s)) rfl ?_
                    refine w_zeq K rfl (fun _ => ?_) (fun _ => ?_)
                    · refine w_go K 3 (c' := (164, [some (.ref 80), some (.int x10)], [.int 12, .int (gI s 80 3)], mT s)) rfl ?_
                      refine w_ine K rfl (fun _ => ?_) (fun _ => ?_)
                      · refine w_go K 2 (c' := (171, [some (.ref 80), some (.int x10)], [.int (gI s 80 8)], mT s)) rfl ?_
                        refine w_zne K rfl (fun _ => ?_) (fun _ => ?_)
                        · refine w_go K 2 (c' := (176, [some (.ref 80), some (.int x10)], [.int 1, .ref 80], mT s)) rfl ?_
                          refine w_callL K (E := f_Parser_unwind (1 : Int32) s) (g := fun (x308 : mS) => (none, mT x308)) rfl (m_Parser_unwind (len := len) (xs := xs) (d + 1) (1 : Int32) s) (fun x308 => ?_)
                          refine w_go K 1 (c' := (180, [some (.ref 80), some (.int x10)], [.ref 80], mT x308)) rfl ?_
                          refine w_gP4 K rfl (fun r309 hr309 => ?_)
                          refine w_go K 0 (c' := (183, [some (.ref 80), some (.int x10)], [.ref r309], mT x308)) rfl ?_
                          refine w_callL K (E := f_Act_beginCondition r309 x308) (g := fun (x310 : mS) => (none, mT x310)) (st_c (b := 1) (st := [.ref r309]) (args := []) (rest := []) rfl rfl rfl hr309) (m_Act_beginCondition (len := len) (xs := xs) r309 hr309 (d + 2) x308) (fun x310 => ?_)
                          refine w_go K 4 (c' := (223, [some (.ref 80), some (.int x10)], [], mT (sI x310 80 7 3))) rfl ?_
                          exact w_ret K rfl (hK _)
                        · refine w_go K 3 (c' := (200, [some (.ref 80), some (.int x10)], [.int 16, .int (gI s 80 3)], mT s)) rfl ?_
                          refine w_ine K rfl (fun _ => ?_) (fun _ => ?_)
                          · refine w_go K 3 (c' := (208, [some (.ref 80), some (.int x10)], [.int 1, .int (gI s 80 8)], mT s)) rfl ?_
                            refine w_ieq K rfl (fun _ => ?_) (fun _ => ?_)
                            · refine w_go K 2 (c' := (220, [some (.ref 80), some (.int x10)], [.int 1, .ref 80], mT s)) rfl ?_
                              refine w_callLT K (E := f_Parser_fail (1 : Int32) s) (g := fun (x311 : mS) => (none, mT x311)) rfl (m_Parser_fail (len := len) (xs := xs) (d + 2) (1 : Int32) s) (fun x311 => ?_)
                              refine w_go K 0 (c' := (223, [some (.ref 80), some (.int x10)], [], mT x311)) rfl ?_
                              exact w_ret K rfl (hK _)
                            · refine w_go K 1 (c' := (212, [some (.ref 80), some (.int x10)], [.ref 80], mT s)) rfl ?_
                              refine w_callL K (E := f_Parser_closeLine s) (g := fun (x312 : mS) => (none, mT x312)) rfl (m_Parser_closeLine (len := len) (xs := xs) (d + 0) s) (fun x312 => ?_)
                              refine w_go K 1 (c' := (223, [some (.ref 80), some (.int x10)], [], mT x312)) rfl ?_
                              exact w_ret K rfl (hK _)
                          · refine w_go K 2 (c' := (220, [some (.ref 80), some (.int x10)], [.int 1, .ref 80], mT s)) rfl ?_
                            refine w_callLT K (E := f_Parser_fail (1 : Int32) s) (g := fun (x313 : mS) => (none, mT x313)) rfl (m_Parser_fail (len := len) (xs := xs) (d + 2) (1 : Int32) s) (fun x313 => ?_)
                            refine w_go K 0 (c' := (223, [some (.ref 80), some (.int x10)], [], mT x313)) rfl ?_
                            exact w_ret K rfl (hK _)
                      · refine w_go K 3 (c' := (200, [some (.ref 80), some (.int x10)], [.int 16, .int (gI s 80 3)], mT s)) rfl ?_
                        refine w_ine K rfl (fun _ => ?_) (fun _ => ?_)
                        · refine w_go K 3 (c' := (208, [some (.ref 80), some (.int x10)], [.int 1, .int (gI s 80 8)], mT s)) rfl ?_
                          refine w_ieq K rfl (fun _ => ?_) (fun _ => ?_)
                          · refine w_go K 2 (c' := (220, [some (.ref 80), some (.int x10)], [.int 1, .ref 80], mT s)) rfl ?_
                            refine w_callLT K (E := f_Parser_fail (1 : Int32) s) (g := fun (x314 : mS) => (none, mT x314)) rfl (m_Parser_fail (len := len) (xs := xs) (d + 2) (1 : Int32) s) (fun x314 => ?_)
                            refine w_go K 0 (c' := (223, [some (.ref 80), some (.int x10)], [], mT x314)) rfl ?_
                            exact w_ret K rfl (hK _)
                          · refine w_go K 1 (c' := (212, [some (.ref 80), some (.int x10)], [.ref 80], mT s)) rfl ?_
                            refine w_callL K (E := f_Parser_closeLine s) (g := fun (x315 : mS) => (none, mT x315)) rfl (m_Parser_closeLine (len := len) (xs := xs) (d + 0) s) (fun x315 => ?_)
                            refine w_go K 1 (c' := (223, [some (.ref 80), some (.int x10)], [], mT x315)) rfl ?_
                            exact w_ret K rfl (hK _)
                        · refine w_go K 2 (c' := (220, [some (.ref 80), some (.int x10)], [.int 1, .ref 80], mT s)) rfl ?_
                          refine w_callLT K (E := f_Parser_fail (1 : Int32) s) (g := fun (x316 : mS) => (none, mT x316)) rfl (m_Parser_fail (len := len) (xs := xs) (d + 2) (1 : Int32) s) (fun x316 => ?_)
                          refine w_go K 0 (c' := (223, [some (.ref 80), some (.int x10)], [], mT x316)) rfl ?_
                          exact w_ret K rfl (hK _)
                    · refine w_go K 1 (c' := (152, [some (.ref 80), some (.int x10)], [.ref 80], mT s)) rfl ?_
                      refine w_callL K (E := f_Parser_closeBracket s) (g := fun (x317 : mS) => (none, mT x317)) rfl (m_Parser_closeBracket (len := len) (xs := xs) (d + 0) s) (fun x317 => ?_)
                      refine w_go K 1 (c' := (223, [some (.ref 80), some (.int x10)], [], mT x317)) rfl ?_
                      exact w_ret K rfl (hK _)
                  · refine w_go K 3 (c' := (164, [some (.ref 80), some (.int x10)], [.int 12, .int (gI s 80 3)], mT s)) rfl ?_
                    refine w_ine K rfl (fun _ => ?_) (fun _ => ?_)
                    · refine w_go K 2 (c' := (171, [some (.ref 80), some (.int x10)], [.int (gI s 80 8)], mT s)) rfl ?_
                      refine w_zne K rfl (fun _ => ?_) (fun _ => ?_)
                      · refine w_go K 2 (c' := (176, [some (.ref 80), some (.int x10)], [.int 1, .ref 80], mT s)) rfl ?_
                        refine w_callL K (E := f_Parser_unwind (1 : Int32) s) (g := fun (x318 : mS) => (none, mT x318)) rfl (m_Parser_unwind (len := len) (xs := xs) (d + 1) (1 : Int32) s) (fun x318 => ?_)
                        refine w_go K 1 (c' := (180, [some (.ref 80), some (.int x10)], [.ref 80], mT x318)) rfl ?_
                        refine w_gP4 K rfl (fun r319 hr319 => ?_)
                        refine w_go K 0 (c' := (183, [some (.ref 80), some (.int x10)], [.ref r319], mT x318)) rfl ?_
                        refine w_callL K (E := f_Act_beginCondition r319 x318) (g := fun (x320 : mS) => (none, mT x320)) (st_c (b := 1) (st := [.ref r319]) (args := []) (rest := []) rfl rfl rfl hr319) (m_Act_beginCondition (len := len) (xs := xs) r319 hr319 (d + 2) x318) (fun x320 => ?_)
                        refine w_go K 4 (c' := (223, [some (.ref 80), some (.int x10)], [], mT (sI x320 80 7 3))) rfl ?_
                        exact w_ret K rfl (hK _)
                      · refine w_go K 3 (c' := (200, [some (.ref 80), some (.int x10)], [.int 16, .int (gI s 80 3)], mT s)) rfl ?_
                        refine w_ine K rfl (fun _ => ?_) (fun _ => ?_)
                        · refine w_go K 3 (c' := (208, [some (.ref 80), some (.int x10)], [.int 1, .int (gI s 80 8)], mT s)) rfl ?_
                          refine w_ieq K rfl (fun _ => ?_) (fun _ => ?_)
                          · refine w_go K 2 (c' := (220, [some (.ref 80), some (.int x10)], [.int 1, .ref 80], mT s)) rfl ?_
                            refine w_callLT K (E := f_Parser_fail (1 : Int32) s) (g := fun (x321 : mS) => (none, mT x321)) rfl (m_Parser_fail (len := len) (xs := xs) (d + 2) (1 : Int32) s) (fun x321 => ?_)
                            refine w_go K 0 (c' := (223, [some (.ref 80), some (.int x10)], [], mT x321)) rfl ?_
                            exact w_ret K rfl (hK _)
                          · refine w_go K 1 (c' := (212, [some (.ref 80), some (.int x10)], [.ref 80], mT s)) rfl ?_
                            refine w_callL K (E := f_Parser_closeLine s) (g := fun (x322 : mS) => (none, mT x322)) rfl (m_Parser_closeLine (len := len) (xs := xs) (d + 0) s) (fun x322 => ?_)
                            refine w_go K 1 (c' := (223, [some (.ref 80), some (.int x10)], [], mT x322)) rfl ?_
                            exact w_ret K rfl (hK _)
                        · refine w_go K 2 (c' := (220, [some (.ref 80), some (.int x10)], [.int 1, .ref 80], mT s)) rfl ?_
                          refine w_callLT K (E := f_Parser_fail (1 : Int32) s) (g := fun (x323 : mS) => (none, mT x323)) rfl (m_Parser_fail (len := len) (xs := xs) (d + 2) (1 : Int32) s) (fun x323 => ?_)
                          refine w_go K 0 (c' := (223, [some (.ref 80), some (.int x10)], [], mT x323)) rfl ?_
                          exact w_ret K rfl (hK _)
                    · refine w_go K 3 (c' := (200, [some (.ref 80), some (.int x10)], [.int 16, .int (gI s 80 3)], mT s)) rfl ?_
                      refine w_ine K rfl (fun _ => ?_) (fun _ => ?_)
                      · refine w_go K 3 (c' := (208, [some (.ref 80), some (.int x10)], [.int 1, .int (gI s 80 8)], mT s)) rfl ?_
                        refine w_ieq K rfl (fun _ => ?_) (fun _ => ?_)
                        · refine w_go K 2 (c' := (220, [some (.ref 80), some (.int x10)], [.int 1, .ref 80], mT s)) rfl ?_
                          refine w_callLT K (E := f_Parser_fail (1 : Int32) s) (g := fun (x324 : mS) => (none, mT x324)) rfl (m_Parser_fail (len := len) (xs := xs) (d + 2) (1 : Int32) s) (fun x324 => ?_)
                          refine w_go K 0 (c' := (223, [some (.ref 80), some (.int x10)], [], mT x324)) rfl ?_
                          exact w_ret K rfl (hK _)
                        · refine w_go K 1 (c' := (212, [some (.ref 80), some (.int x10)], [.ref 80], mT s)) rfl ?_
                          refine w_callL K (E := f_Parser_closeLine s) (g := fun (x325 : mS) => (none, mT x325)) rfl (m_Parser_closeLine (len := len) (xs := xs) (d + 0) s) (fun x325 => ?_)
                          refine w_go K 1 (c' := (223, [some (.ref 80), some (.int x10)], [], mT x325)) rfl ?_
                          exact w_ret K rfl (hK _)
                      · refine w_go K 2 (c' := (220, [some (.ref 80), some (.int x10)], [.int 1, .ref 80], mT s)) rfl ?_
                        refine w_callLT K (E := f_Parser_fail (1 : Int32) s) (g := fun (x326 : mS) => (none, mT x326)) rfl (m_Parser_fail (len := len) (xs := xs) (d + 2) (1 : Int32) s) (fun x326 => ?_)
                        refine w_go K 0 (c' := (223, [some (.ref 80), some (.int x10)], [], mT x326)) rfl ?_
                        exact w_ret K rfl (hK _)
                · refine w_go K 2 (c' := (132, [some (.ref 80), some (.int x10)], [.int 3, .ref 80], mT s)) rfl ?_
                  refine w_callL K (E := f_Parser_operate (3 : Int32) s) (g := fun (x327 : mS) => (none, mT x327)) rfl (m_Parser_operate (len := len) (xs := xs) (d + 0) (3 : Int32) s) (fun x327 => ?_)
                  refine w_go K 1 (c' := (223, [some (.ref 80), some (.int x10)], [], mT x327)) rfl ?_
                  exact w_ret K rfl (hK _)
              · refine w_go K 3 (c' := (123, [some (.ref 80), some (.int x10)], [.int 13, .int (gI s 80 3)], mT s)) rfl ?_
                refine w_ine K rfl (fun _ => ?_) (fun _ => ?_)
                · refine w_go K 1 (c' := (127, [some (.ref 80), some (.int x10)], [.int x10], mT s)) rfl ?_
                  refine w_zeq K rfl (fun _ => ?_) (fun _ => ?_)
                  · refine w_go K 3 (c' := (144, [some (.ref 80), some (.int x10)], [.int 22, .int (gI s 80 3)], mT s)) rfl ?_
                    refine w_ine K rfl (fun _ => ?_) (fun _ => ?_)
                    · refine w_go K 1 (c' := (148, [some (.ref 80), some (.int x10)], [.int x10], mT s)) rfl ?_
                      refine w_zeq K rfl (fun _ => ?_) (fun _ => ?_)
                      · refine w_go K 3 (c' := (164, [some (.ref 80), some (.int x10)], [.int 12, .int (gI s 80 3)], mT s)) rfl ?_
                        refine w_ine K rfl (fun _ => ?_) (fun _ => ?_)
                        · refine w_go K 2 (c' := (171, [some (.ref 80), some (.int x10)], [.int (gI s 80 8)], mT s)) rfl ?_
                          refine w_zne K rfl (fun _ => ?_) (fun _ => ?_)
                          · refine w_go K 2 (c' := (176, [some (.ref 80), some (.int x10)], [.int 1, .ref 80], mT s)) rfl ?_
                            refine w_callL K (E := f_Parser_unwind (1 : Int32) s) (g := fun (x328 : mS) => (none, mT x328)) rfl (m_Parser_unwind (len := len) (xs := xs) (d + 1) (1 : Int32) s) (fun x328 => ?_)
                            refine w_go K 1 (c' := (180, [some (.ref 80), some (.int x10)], [.ref 80], mT x328)) rfl ?_
                            refine w_gP4 K rfl (fun r329 hr329 => ?_)
                            refine w_go K 0 (c' := (183, [some (.ref 80), some (.int x10)], [.ref r329], mT x328)) rfl ?_
                            refine w_callL K (E := f_Act_beginCondition r329 x328) (g := fun (x330 : mS) => (none, mT x330)) (st_c (b := 1) (st := [.ref r329]) (args := []) (rest := []) rfl rfl rfl hr329) (m_Act_beginCondition (len := len) (xs := xs) r329 hr329 (d + 2) x328) (fun x330 => ?_)
                            refine w_go K 4 (c' := (223, [some (.ref 80), some (.int x10)], [], mT (sI x330 80 7 3))) rfl ?_
                            exact w_ret K rfl (hK _)
                          · refine w_go K 3 (c' := (200, [some (.ref 80), some (.int x10)], [.int 16, .int (gI s 80 3)], mT s)) rfl ?_
                            refine w_ine K rfl (fun _ => ?_) (fun _ => ?_)
                            · refine w_go K 3 (c' := (208, [some (.ref 80), some (.int x10)], [.int 1, .int (gI s 80 8)], mT s)) rfl ?_
                              refine w_ieq K rfl (fun _ => ?_) (fun _ => ?_)
                              · refine w_go K 2 (c' := (220, [some (.ref 80), some (.int x10)], [.int 1, .ref 80], mT s)) rfl ?_
                                refine w_callLT K (E := f_Parser_fail (1 : Int32) s) (g := fun (x331 : mS) => (none, mT x331)) rfl (m_Parser_fail (len := len) (xs := xs) (d + 2) (1 : Int32) s) (fun x331 => ?_)
                                refine w_go K 0 (c' := (223, [some (.ref 80), some (.int x10)], [], mT x331)) rfl ?_
                                exact w_ret K rfl (hK _)
                              · refine w_go K 1 (c' := (212, [some (.ref 80), some (.int x10)], [.ref 80], mT s)) rfl ?_
                                refine w_callL K (E := f_Parser_closeLine s) (g := fun (x332 : mS) => (none, mT x332)) rfl (m_Parser_closeLine (len := len) (xs := xs) (d + 0) s) (fun x332 => ?_)
                                refine w_go K 1 (c' := (223, [some (.ref 80), some (.int x10)], [], mT x332)) rfl ?_
                                exact w_ret K rfl (hK _)
                            · refine w_go K 2 (c' := (220, [some (.ref 80), some (.int x10)], [.int 1, .ref 80], mT s)) rfl ?_
                              refine w_callLT K (E := f_Parser_fail (1 : Int32) s) (g := fun (x333 : mS) => (none, mT x333)) rfl (m_Parser_fail (len := len) (xs := xs) (d + 2) (1 : Int32) s) (fun x333 => ?_)
                              refine w_go K 0 (c' := (223, [some (.ref 80), some (.int x10)], [], mT x333)) rfl ?_
                              exact w_ret K rfl (hK _)
                        · refine w_go K 3 (c' := (200, [some (.ref 80), some (.int x10)], [.int 16, .int (gI s 80 3)], mT s)) rfl ?_
                          refine w_ine K rfl (fun _ => ?_) (fun _ => ?_)
                          · refine w_go K 3 (c' := (208, [some (.ref 80), some (.int x10)], [.int 1, .int (gI s 80 8)], mT s)) rfl ?_
                            refine w_ieq K rfl (fun _ => ?_) (fun _ => ?_)
                            · refine w_go K 2 (c' := (220, [some (.ref 80), some (.int x10)], [.int 1, .ref 80], mT s)) rfl ?_
                              refine w_callLT K (E := f_Parser_fail (1 : Int32) s) (g := fun (x334 : mS) => (none, mT x334)) rfl (m_Parser_fail (len := len) (xs := xs) (d + 2) (1 : Int32) s) (fun x334 => ?_)
                              refine w_go K 0 (c' := (223, [some (.ref 80), some (.int x10)], [], mT x334)) rfl ?_
                              exact w_ret K rfl (hK _)
                            · refine w_go K 1 (c' := (212, [some (.ref 80), some (.int x10)], [.ref 80], mT s)) rfl ?_
                              refine w_callL K (E := f_Parser_closeLine s) (g := fun (x335 : mS) => (none, mT x335)) rfl (m_Parser_closeLine (len := len) (xs := xs) (d + 0) s) (fun x335 => ?_)
                              refine w_go K 1 (c' := (223, [some (.ref 80), some (.int x10)], [], mT x335)) rfl ?_
                              exact w_ret K rfl (hK _)
                          · refine w_go K 2 (c' := (220, [some (.ref 80), some (.int x10)], [.int 1, .ref 80], mT s)) rfl ?_
                            refine w_callLT K (E := f_Parser_fail (1 : Int32) s) (g := fun (x336 : mS) => (none, mT x336)) rfl (m_Parser_fail (len := len) (xs := xs) (d + 2) (1 : Int32) s) (fun x336 => ?_)
                            refine w_go K 0 (c' := (223, [some (.ref 80), some (.int x10)], [], mT x336)) rfl ?_
                            exact w_ret K rfl (hK _)
                      · refine w_go K 1 (c' := (152, [some (.ref 80), some (.int x10)], [.ref 80], mT s)) rfl ?_
                        refine w_callL K (E := f_Parser_closeBracket s) (g := fun (x337 : mS) => (none, mT x337)) rfl (m_Parser_closeBracket (len := len) (xs := xs) (d + 0) s) (fun x337 => ?_)
                        refine w_go K 1 (c' := (223, [some (.ref 80), some (.int x10)], [], mT x337)) rfl ?_
                        exact w_ret K rfl (hK _)
                    · refine w_go K 3 (c' := (164, [some (.ref 80), some (.int x10)], [.int 12, .int (gI s 80 3)], mT s)) rfl ?_
                      refine w_ine K rfl (fun _ => ?_) (fun _ => ?_)
                      · refine w_go K 2 (c' := (171, [some (.ref 80), some (.int x10)], [.int (gI s 80 8)], mT s)) rfl ?_
                        refine w_zne K rfl (fun _ => ?_) (fun _ => ?_)
                        · refine w_go K 2 (c' := (176, [some (.ref 80), some (.int x10)], [.int 1, .ref 80], mT s)) rfl ?_
                          refine w_callL K (E := f_Parser_unwind (1 : Int32) s) (g := fun (x338 : mS) => (none, mT x338)) rfl (m_Parser_unwind (len := len) (xs := xs) (d + 1) (1 : Int32) s) (fun x338 => ?_)
                          refine w_go K 1 (c' := (180, [some (.ref 80), some (.int x10)], [.ref 80], mT x338)) rfl ?_
                          refine w_gP4 K rfl (fun r339 hr339 => ?_)
                          refine w_go K 0 (c' := (183, [some (.ref 80), some (.int x10)], [.ref r339], mT x338)) rfl ?_
                          refine w_callL K (E := f_Act_beginCondition r339 x338) (g := fun (x340 : mS) => (none, mT x340)) (st_c (b := 1) (st := [.ref r339]) (args := []) (rest := []) rfl rfl rfl hr339) (m_Act_beginCondition (len := len) (xs := xs) r339 hr339 (d + 2) x338) (fun x340 => ?_)
                          refine w_go K 4 (c' := (223, [some (.ref 80), some (.int x10)], [], mT (sI x340 80 7 3))) rfl ?_
                          exact w_ret K rfl (hK _)
                        · refine w_go K 3 (c' := (200, [some (.ref 80), some (.int x10)], [.int 16, .int (gI s 80 3)], mT s)) rfl ?_
                          refine w_ine K rfl (fun _ => ?_) (fun _ => ?_)
                          · refine w_go K 3 (c' := (208, [some (.ref 80), some (.int x10)], [.int 1, .int (gI s 80 8)], mT s)) rfl ?_
                            refine w_ieq K rfl (fun _ => ?_) (fun _ => ?_)
                            · refine w_go K 2 (c' := (220, [some (.ref 80), some (.int x10)], [.int 1, .ref 80], mT s)) rfl ?_
                              refine w_callLT K (E := f_Parser_fail (1 : Int32) s) (g := fun (x341 : mS) => (none, mT x341)) rfl (m_Parser_fail (len := len) (xs := xs) (d + 2) (1 : Int32) s) (fun x341 => ?_)
                              refine w_go K 0 (c' := (223, [some (.ref 80), some (.int x10)], [], mT x341)) rfl ?_
                              exact w_ret K rfl (hK _)
                            · refine w_go K 1 (c' := (212, [some (.ref 80), some (.int x10)], [.ref 80], mT s)) rfl ?_
                              refine w_callL K (E := f_Parser_closeLine s) (g := fun (x342 : mS) => (none, mT x342)) rfl (m_Parser_closeLine (len := len) (xs := xs) (d + 0) s) (fun x342 => ?_)
                              refine w_go K 1 (c' := (223, [some (.ref 80), some (.int x10)], [], mT x342)) rfl ?_
                              exact w_ret K rfl (hK _)
                          · refine w_go K 2 (c' := (220, [some (.ref 80), some (.int x10)], [.int 1, .ref 80], mT s)) rfl ?_
                            refine w_callLT K (E := f_Parser_fail (1 : Int32) s) (g := fun (x343 : mS) => (none, mT x343)) rfl (m_Parser_fail (len := len) (xs := xs) (d + 2) (1 : Int32) s) (fun x343 => ?_)
                            refine w_go K 0 (c' := (223, [some (.ref 80), some (.int x10)], [], mT x343)) rfl ?_
                            exact w_ret K rfl (hK _)
                      · refine w_go K 3 (c' := (200, [some (.ref 80), some (.int x10)], [.int 16, .int (gI s 80 3)], mT s)) rfl ?_
                        refine w_ine K rfl (fun _ => ?_) (fun _ => ?_)
                        · refine w_go K 3 (c' := (208, [some (.ref 80), some (.int x10)], [.int 1, .int (gI s 80 8)], mT s)) rfl ?_
                          refine w_ieq K rfl (fun _ => ?_) (fun _ => ?_)
                          · refine w_go K 2 (c' := (220, [some (.ref 80), some (.int x10)], [.int 1, .ref 80], mT s)) rfl ?_
                            refine w_callLT K (E := f_Parser_fail (1 : Int32) s) (g := fun (x344 : mS) => (none, mT x344)) rfl (m_Parser_fail (len := len) (xs := xs) (d + 2) (1 : Int32) s) (fun x344 => ?_)
                            refine w_go K 0 (c' := (223, [some (.ref 80), some (.int x10)], [], mT x344)) rfl ?_
                            exact w_ret K rfl (hK _)
                          · refine w_go K 1 (c' := (212, [some (.ref 80), some (.int x10)], [.ref 80], mT s)) rfl ?_
                            refine w_callL K (E := f_Parser_closeLine s) (g := fun (x345 : mS) => (none, mT x345)) rfl (m_Parser_closeLine (len := len) (xs := xs) (d + 0) s) (fun x345 => ?_)
                            refine w_go K 1 (c' := (223, [some (.ref 80), some (.int x10)], [], mT x345)) rfl ?_
                            exact w_ret K rfl (hK _)
                        · refine w_go K 2 (c' := (220, [some (.ref 80), some (.int x10)], [.int 1, .ref 80], mT s)) rfl ?_
                          refine w_callLT K (E := f_Parser_fail (1 : Int32) s) (g := fun (x346 : mS) => (none, mT x346)) rfl (m_Parser_fail (len := len) (xs := xs) (d + 2) (1 : Int32) s) (fun x346 => ?_)
                          refine w_go K 0 (c' := (223, [some (.ref 80), some (.int x10)], [], mT x346)) rfl ?_
                          exact w_ret K rfl (hK _)
                  · refine w_go K 2 (c' := (132, [some (.ref 80), some (.int x10)], [.int 3, .ref 80], mT s)) rfl ?_
                    refine w_callL K (E := f_Parser_operate (3 : Int32) s) (g := fun (x347 : mS) => (none, mT x347)) rfl (m_Parser_operate (len := len) (xs := xs) (d + 0) (3 : Int32) s) (fun x347 => ?_)
                    refine w_go K 1 (c' := (223, [some (.ref 80), some (.int x10)], [], mT x347)) rfl ?_
                    exact w_ret K rfl (hK _)
                · refine w_go K 3 (c' := (144, [some (.ref 80), some (.int x10)], [.int 22, .int (gI s 80 3)], mT s)) rfl ?_
                  refine w_ine K rfl (fun _ => ?_) (fun _ => ?_)
                  · refine w_go K 1 (c' := (148, [some (.ref 80), some (.int x10)], [.int x10], mT s)) rfl ?_
                    refine w_zeq K rfl (fun _ => ?_) (fun _ => ?_)
                    · refine w_go K 3 (c' := (164, [some (.ref 80), some (.int x10)], [.int 12, .int (gI s 80 3)], mT s)) rfl ?_
                      refine w_ine K rfl (fun _ => ?_) (fun _ => ?_)
                      · refine w_go K 2 (c' := (171, [some (.ref 80), some (.int x10)], [.int (gI s 80 8)], mT s)) rfl ?_
                        refine w_zne K rfl (fun _ => ?_) (fun _ => ?_)
                        · refine w_go K 2 (c' := (176, [some (.ref 80), some (.int x10)], [.int 1, .ref 80], mT s)) rfl ?_
                          refine w_callL K (E := f_Parser_unwind (1 : Int32) s) (g := fun (x348 : mS) => (none, mT x348)) rfl (m_Parser_unwind (len := len) (xs := xs) (d + 1) (1 : Int32) s) (fun x348 => ?_)
                          refine w_go K 1 (c' := (180, [some (.ref 80), some (.int x10)], [.ref 80], mT x348)) rfl ?_
                          refine w_gP4 K rfl (fun r349 hr349 => ?_)
                          refine w_go K 0 (c' := (183, [some (.ref 80), some (.int x10)], [.ref r349], mT x348)) rfl ?_
                          refine w_callL K (E := f_Act_beginCondition r349 x348) (g := fun (x350 : mS) => (none, mT x350)) (st_c (b := 1) (st := [.ref r349]) (args := []) (rest := []) rfl rfl rfl hr349) (m_Act_beginCondition (len := len) (xs := xs) r349 hr349 (d + 2) x348) (fun x350 => ?_)
                          refine w_go K 4 (c' := (223, [some (.ref 80), some (.int x10)], [], mT (sI x350 80 7 3))) rfl ?_
                          exact w_ret K rfl (hK _)
                        · refine w_go K 3 (c' := (200, [some (.ref 80), some (.int x10)], [.int 16, .int (gI s 80 3)], mT s)) rfl ?_
                          refine w_ine K rfl (fun _ => ?_) (fun _ => ?_)
                          · refine w_go K 3 (c' := (208, [some (.ref 80), some (.int x10)], [.int 1, .int (gI s 80 8)], mT s)) rfl ?_
                            refine w_ieq K rfl (fun _ => ?_) (fun _ => ?_)
                            · refine w_go K 2 (c' := (220, [some (.ref 80), some (.int x10)], [.int 1, .ref 80], mT s)) rfl ?_
                              refine w_callLT K (E := f_Parser_fail (1 : Int32) s) (g := fun (x351 : mS) => (none, mT x351)) rfl (m_Parser_fail (len := len) (xs := xs) (d + 2) (1 : Int32) s) (fun x351 => ?_)
                              refine w_go K 0 (c' := (223, [some (.ref 80), some (.int x10)], [], mT x351)) rfl ?_
                              exact w_ret K rfl (hK _)
                            · refine w_go K 1 (c' := (212, [some (.ref 80), some (.int x10)], [.ref 80], mT s)) rfl ?_
                              refine w_callL K (E := f_Parser_closeLine s) (g := fun (x352 : mS) => (none, mT x352)) rfl (m_Parser_closeLine (len := len) (xs := xs) (d + 0) s) (fun x352 => ?_)
                              refine w_go K 1 (c' := (223, [some (.ref 80), some (.int x10)], [], mT x352)) rfl ?_
                              exact w_ret K rfl (hK _)
                          · refine w_go K 2 (c' := (220, [some (.ref 80), some (.int x10)], [.int 1, .ref 80], mT s)) rfl ?_
                            refine w_callLT K (E := f_Parser_fail (1 : Int32) s) (g := fun (x353 : mS) => (none, mT x353)) rfl (m_Parser_fail (len := len) (xs := xs) (d + 2) (1 : Int32) s) (fun x353 => ?_)
                            refine w_go K 0 (c' := (223, [some (.ref 80), some (.int x10)], [], mT x353)) rfl ?_
                            exact w_ret K rfl (hK _)
                      · refine w_go K 3 (c' := (200, [some (.ref 80), some (.int x10)], [.int 16, .int (gI s 80 3)], mT s)) rfl ?_
                        refine w_ine K rfl (fun _ => ?_) (fun _ => ?_)
                        · refine w_go K 3 (c' := (208, [some (.ref 80), some (.int x10)], [.int 1, .int (gI s 80 8)], mT s)) rfl ?_
                          refine w_ieq K rfl (fun _ => ?_) (fun _ => ?_)
                          · refine w_go K 2 (c' := (220, [some (.ref 80), some (.int x10)], [.int 1, .ref 80], mT s)) rfl ?_
                            refine w_callLT K (E := f_Parser_fail (1 : Int32) s) (g := fun (x354 : mS) => (none, mT x354)) rfl (m_Parser_fail (len := len) (xs := xs) (d + 2) (1 : Int32) s) (fun x354 => ?_)
                            refine w_go K 0 (c' := (223, [some (.ref 80), some (.int x10)], [], mT x354)) rfl ?_
                            exact w_ret K rfl (hK _)
                          · refine w_go K 1 (c' := (212, [some (.ref 80), some (.int x10)], [.ref 80], mT s)) rfl ?_
                            refine w_callL K (E := f_Parser_closeLine s) (g := fun (x355 : mS) => (none, mT x355)) rfl (m_Parser_closeLine (len := len) (xs := xs) (d + 0) s) (fun x355 => ?_)
                            refine w_go K 1 (c' := (223, [some (.ref 80), some (.int x10)], [], mT x355)) rfl ?_
                            exact w_ret K rfl (hK _)
                        · refine w_go K 2 (c' := (220, [some (.ref 80), some (.int x10)], [.int 1, .ref 80], mT s)) rfl ?_
                          refine w_callLT K (E := f_Parser_fail (1 : Int32) s) (g := fun (x356 : mS) => (none, mT x356)) rfl (m_Parser_fail (len := len) (xs := xs) (d + 2) (1 : Int32) s) (fun x356 => ?_)
                          refine w_go K 0 (c' := (223, [some (.ref 80), some (.int x10)], [], mT x356)) rfl ?_
                          exact w_ret K rfl (hK _)
                    · refine w_go K 1 (c' := (152, [some (.ref 80), some (.int x10)], [.ref 80], mT s)) rfl ?_
                      refine w_callL K (E := f_Parser_closeBracket s) (g := fun (x357 : mS) => (none, mT x357)) rfl (m_Parser_closeBracket (len := len) (xs := xs) (d + 0) s) (fun x357 => ?_)
                      refine w_go K 1 (c' := (223, [some (.ref 80), some (.int x10)], [], mT x357)) rfl ?_
                      exact w_ret K rfl (hK _)
                  · refine w_go K 3 (c' := (164, [some (.ref 80), some (.int x10)], [.int 12, .int (gI s 80 3)], mT s)) rfl ?_
                    refine w_ine K rfl (fun _ => ?_) (fun _ => ?_)
                    · refine w_go K 2 (c' := (171, [some (.ref 80), some (.int x10)], [.int (gI s 80 8)], mT s)) rfl ?_
                      refine w_zne K rfl (fun _ => ?_) (fun _ => ?_)
                      · refine w_go K 2 (c' := (176, [some (.ref 80), some (.int x10)], [.int 1, .ref 80], mT s)) rfl ?_
                        refine w_callL K (E := f_Parser_unwind (1 : Int32) s) (g := fun (x358 : mS) => (none, mT x358)) rfl (m_Parser_unwind (len := len) (xs := xs) (d + 1) (1 : Int32) s) (fun x358 => ?_)
                        refine w_go K 1 (c' := (180, [some (.ref 80), some (.int x10)], [.ref 80], mT x358)) rfl ?_
                        refine w_gP4 K rfl (fun r359 hr359 => ?_)
                        refine w_go K 0 (c' := (183, [some (.ref 80), some (.int x10)], [.ref r359], mT x358)) rfl ?_
                        refine w_callL K (E := f_Act_beginCondition r359 x358) (g := fun (x360 : mS) => (none, mT x360)) (st_c (b := 1) (st := [.ref r359]) (args := []) (rest := []) rfl rfl rfl hr359) (m_Act_beginCondition (len := len) (xs := xs) r359 hr359 (d + 2) x358) (fun x360 => ?_)
                        refine w_go K 4 (c' := (223, [some (.ref 80), some (.int x10)], [], mT (sI x360 80 7 3))) rfl ?_
                        exact w_ret K rfl (hK _)
                      · refine w_go K 3 (c' := (200, [some (.ref 80), some (.int x10)], [.int 16, .int (gI s 80 3)], mT s)) rfl ?_
                        refine w_ine K rfl (fun _ => ?_) (fun _ => ?_)
                        · refine w_go K 3 (c' := (208, [some (.ref 80), some (.int x10)], [.int 1, .int (gI s 80 8)], mT s)) rfl ?_
                          refine w_ieq K rfl (fun _ => ?_) (fun _ => ?_)
                          · refine w_go K 2 (c' := (220, [some (.ref 80), some (.int x10)], [.int 1, .ref 80], mT s)) rfl ?_
                            refine w_callLT K (E := f_Parser_fail (1 : Int32) s) (g := fun (x361 : mS) => (none, mT x361)) rfl (m_Parser_fail (len := len) (xs := xs) (d + 2) (1 : Int32) s) (fun x361 => ?_)
                            refine w_go K 0 (c' := (223, [some (.ref 80), some (.int x10)], [], mT x361)) rfl ?_
                            exact w_ret K rfl (hK _)
                          · refine w_go K 1 (c' := (212, [some (.ref 80), some (.int x10)], [.ref 80], mT s)) rfl ?_
                            refine w_callL K (E := f_Parser_closeLine s) (g := fun (x362 : mS) => (none, mT x362)) rfl (m_Parser_closeLine (len := len) (xs := xs) (d + 0) s) (fun x362 => ?_)
                            refine w_go K 1 (c' := (223, [some (.ref 80), some (.int x10)], [], mT x362)) rfl ?_
                            exact w_ret K rfl (hK _)
                        · refine w_go K 2 (c' := (220, [some (.ref 80), some (.int x10)], [.int 1, .ref 80], mT s)) rfl ?_
                          refine w_callLT K (E := f_Parser_fail (1 : Int32) s) (g := fun (x363 : mS) => (none, mT x363)) rfl (m_Parser_fail (len := len) (xs := xs) (d + 2) (1 : Int32) s) (fun x363 => ?_)
                          refine w_go K 0 (c' := (223, [some (.ref 80), some (.int x10)], [], mT x363)) rfl ?_
                          exact w_ret K rfl (hK _)
                    · refine w_go K 3 (c' := (200, [some (.ref 80), some (.int x10)], [.int 16, .int (gI s 80 3)], mT s)) rfl ?_
                      refine w_ine K rfl (fun _ => ?_) (fun _ => ?_)
                      · refine w_go K 3 (c' := (208, [some (.ref 80), some (.int x10)], [.int 1, .int (gI s 80 8)], mT s)) rfl ?_
                        refine w_ieq K rfl (fun _ => ?_) (fun _ => ?_)
                        · refine w_go K 2 (c' := (220, [some (.ref 80), some (.int x10)], [.int 1, .ref 80], mT s)) rfl ?_
                          refine w_callLT K (E := f_Parser_fail (1 : Int32) s) (g := fun (x364 : mS) => (none, mT x364)) rfl (m_Parser_fail (len := len) (xs := xs) (d + 2) (1 : Int32) s) (fun x364 => ?_)
                          refine w_go K 0 (c' := (223, [some (.ref 80), some (.int x10)], [], mT x364)) rfl ?_
                          exact w_ret K rfl (hK _)
                        · refine w_go K 1 (c' := (212, [some (.ref 80), some (.int x10)], [.ref 80], mT s)) rfl ?_
                          refine w_callL K (E := f_Parser_closeLine s) (g := fun (x365 : mS) => (none, mT x365)) rfl (m_Parser_closeLine (len := len) (xs := xs) (d + 0) s) (fun x365 => ?_)
                          refine w_go K 1 (c' := (223, [some (.ref 80), some (.int x10)], [], mT x365)) rfl ?_
                          exact w_ret K rfl (hK _)
                      · refine w_go K 2 (c' := (220, [some (.ref 80), some (.int x10)], [.int 1, .ref 80], mT s)) rfl ?_
                        refine w_callLT K (E := f_Parser_fail (1 : Int32) s) (g := fun (x366 : mS) => (none, mT x366)) rfl (m_Parser_fail (len := len) (xs := xs) (d + 2) (1 : Int32) s) (fun x366 => ?_)
                        refine w_go K 0 (c' := (223, [some (.ref 80), some (.int x10)], [], mT x366)) rfl ?_
                        exact w_ret K rfl (hK _)
      · refine w_go K 3 (c' := (45, [some (.ref 80), some (.int x10)], [.int 3, .int (gI s 80 8)], mT s)) rfl ?_
        refine w_ieq K rfl (fun _ => ?_) (fun _ => ?_)
        · refine w_go K 3 (c' := (75, [some (.ref 80), some (.int x10)], [.int 23, .int (gI s 80 3)], mT s)) rfl ?_
          refine w_ilt K rfl (fun _ => ?_) (fun _ => ?_)
          · refine w_go K 3 (c' := (114, [some (.ref 80), some (.int x10)], [.int 14, .int (gI s 80 3)], mT s)) rfl ?_
            refine w_ieq K rfl (fun _ => ?_) (fun _ => ?_)
            · refine w_go K 1 (c' := (127, [some (.ref 80), some (.int x10)], [.int x10], mT s)) rfl ?_
              refine w_zeq K rfl (fun _ => ?_) (fun _ => ?_)
              · refine w_go K 3 (c' := (144, [some (.ref 80), some (.int x10)], [.int 22, .int (gI s 80 3)], mT s)) rfl ?_
                refine w_ine K rfl (fun _ => ?_) (fun _ => ?_)
                · refine w_go K 1 (c' := (148, [some (.ref 80), some (.int x10)], [.int x10], mT s)) rfl ?_
                  refine w_zeq K rfl (fun _ => ?_) (fun _ => ?_)
                  · refine w_go K 3 (c' := (164, [some (.ref 80), some (.int x10)], [.int 12, .int (gI s 80 3)], mT s)) rfl ?_
                    refine w_ine K rfl (fun _ => ?_) (fun _ => ?_)
                    · refine w_go K 2 (c' := (171, [some (.ref 80), some (.int x10)], [.int (gI s 80 8)], mT s)) rfl ?_
                      refine w_zne K rfl (fun _ => ?_) (fun _ => ?_)
                      · refine w_go K 2 (c' := (176, [some (.ref 80), some (.int x10)], [.int 1, .ref 80], mT s)) rfl ?_
                        refine w_callL K (E := f_Parser_unwind (1 : Int32) s) (g := fun (x367 : mS) => (none, mT x367)) rfl (m_Parser_unwind (len := len) (xs := xs) (d + 1) (1 : Int32) s) (fun x367 => ?_)
                        refine w_go K 1 (c' := (180, [some (.ref 80), some (.int x10)], [.ref 80], mT x367)) rfl ?_
                        refine w_gP4 K rfl (fun r368 hr368 => ?_)
                        refine w_go K 0 (c' := (183, [some (.ref 80), some (.int x10)], [.ref r368], mT x367)) rfl ?_
                        refine w_callL K (E := f_Act_beginCondition r368 x367) (g := fun (x369 : mS) => (none, mT x369)) (st_c (b := 1) (st := [.ref r368]) (args := []) (rest := []) rfl rfl rfl hr368) (m_Act_beginCondition (len := len) (xs := xs) r368 hr368 (d + 2) x367) (fun x369 => ?_)
                        refine w_go K 4 (c' := (223, [some (.ref 80), some (.int x10)], [], mT (sI x369 80 7 3))) rfl ?_
                        exact w_ret K rfl (hK _)
                      · refine w_go K 3 (c' := (200, [some (.ref 80), some (.int x10)], [.int 16, .int (gI s 80 3)], mT s)) rfl ?_
                        refine w_ine K rfl (fun _ => ?_) (fun _ => ?_)
                        · refine w_go K 3 (c' := (208, [some (.ref 80), some (.int x10)], [.int 1, .int (gI s 80 8)], mT s)) rfl ?_
                          refine w_ieq K rfl (fun _ => ?_) (fun _ => ?_)
                          · refine w_go K 2 (c' := (220, [some (.ref 80), some (.int x10)], [.int 1, .ref 80], mT s)) rfl ?_
                            refine w_callLT K (E := f_Parser_fail (1 : Int32) s) (g := fun (x370 : mS) => (none, mT x370)) rfl (m_Parser_fail (len := len) (xs := xs) (d + 2) (1 : Int32) s) (fun x370 => ?_)
                            refine w_go K 0 (c' := (223, [some (.ref 80), some (.int x10)], [], mT x370)) rfl ?_
                            exact w_ret K rfl (hK _)
                          · refine w_go K 1 (c' := (212, [some (.ref 80), some (.int x10)], [.ref 80], mT s)) rfl ?_
                            refine w_callL K (E := f_Parser_closeLine s) (g := fun (x371 : mS) => (none, mT x371)) rfl (m_Parser_closeLine (len := len) (xs := xs) (d + 0) s) (fun x371 => ?_)
                            refine w_go K 1 (c' := (223, [some (.ref 80), some (.int x10)], [], mT x371)) rfl ?_
                            exact w_ret K rfl (hK _)
                        · refine w_go K 2 (c' := (220, [some (.ref 80), some (.int x10)], [.int 1, .ref 80], mT s)) rfl ?_
                          refine w_callLT K (E := f_Parser_fail (1 : Int32) s) (g := fun (x372 : mS) => (none, mT x372)) rfl (m_Parser_fail (len := len) (xs := xs) (d + 2) (1 : Int32) s) (fun x372 => ?_)
                          refine w_go K 0 (c' := (223, [some (.ref 80), some (.int x10)], [], mT x372)) rfl ?_
                          exact w_ret K rfl (hK _)
                    · refine w_go K 3 (c' := (200, [some (.ref 80), some (.int x10)], [.int 16, .int (gI s 80 3)], mT s)) rfl ?_
                      refine w_ine K rfl (fun _ => ?_) (fun _ => ?_)
                      · refine w_go K 3 (c' := (208, [some (.ref 80), some (.int x10)], [.int 1, .int (gI s 80 8)], mT s)) rfl ?_
                        refine w_ieq K rfl (fun _ => ?_) (fun _ => ?_)
                        · refine w_go K 2 (c' := (220, [some (.ref 80), some (.int x10)], [.int 1, .ref 80], mT s)) rfl ?_
                          refine w_callLT K (E := f_Parser_fail (1 : Int32) s) (g := fun (x373 : mS) => (none, mT x373)) rfl (m_Parser_fail (len := len) (xs := xs) (d + 2) (1 : Int32) s) (fun x373 => ?_)
                          refine w_go K 0 (c' := (223, [some (.ref 80), some (.int x10)], [], mT x373)) rfl ?_
                          exact w_ret K rfl (hK _)
                        · refine w_go K 1 (c' := (212, [some (.ref 80), some (.int x10)], [.ref 80], mT s)) rfl ?_
                          refine w_callL K (E := f_Parser_closeLine s) (g := fun (x374 : mS) => (none, mT x374)) rfl (m_Parser_closeLine (len := len) (xs := xs) (d + 0) s) (fun x374 => ?_)
                          refine w_go K 1 (c' := (223, [some (.ref 80), some (.int x10)], [], mT x374)) rfl ?_
                          exact w_ret K rfl (hK _)
                      · refine w_go K 2 (c' := (220, [some (.ref 80), some (.int x10)], [.int 1, .ref 80], mT s)) rfl ?_
                        refine w_callLT K (E := f_Parser_fail (1 : Int32) s) (g := fun (x375 : mS) => (none, mT x375)) rfl (m_Parser_fail (len := len) (xs := xs) (d + 2) (1 : Int32) s) (fun x375 => ?_)
                        refine w_go K 0 (c' := (223, [some (.ref 80), some (.int x10)], [], mT x375)) rfl ?_
                        exact w_ret K rfl (hK _)
                  · refine w_go K 1 (c' := (152, [some (.ref 80), some (.int x10)], [.ref 80], mT s)) rfl ?_
                    refine w_callL K (E := f_Parser_closeBracket s) (g := fun (x376 : mS) => (none, mT x376)) rfl (m_Parser_closeBracket (len := len) (xs := xs) (d + 0) s) (fun x376 => ?_)
                    refine w_go K 1 (c' := (223, [some (.ref 80), some (.int x10)], [], mT x376)) rfl ?_
                    exact w_ret K rfl (hK _)
                · refine w_go K 3 (c' := (164, [some (.ref 80), some (.int x10)], [.int 12, .int (gI s 80 3)], mT s)) rfl ?_
                  refine w_ine K rfl (fun _ => ?_) (fun _ => ?_)
                  · refine w_go K 2 (c' := (171, [some (.ref 80), some (.int x10)], [.int (gI s 80 8)], mT s)) rfl ?_
                    refine w_zne K rfl (fun _ => ?_) (fun _ => ?_)
                    · refine w_go K 2 (c' := (176, [some (.ref 80), some (.int x10)], [.int 1, .ref 80], mT s)) rfl ?_
                      refine w_callL K (E := f_Parser_unwind (1 : Int32) s) (g := fun (x377 : mS) => (none, mT x377)) rfl (m_Parser_unwind (len := len) (xs := xs) (d + 1) (1 : Int32) s) (fun x377 => ?_)
                      refine w_go K 1 (c' := (180, [some (.ref 80), some (.int x10)], [.ref 80], mT x377)) rfl ?_
                      refine w_gP4 K rfl (fun r378 hr378 => ?_)
                      refine w_go K 0 (c' := (183, [some (.ref 80), some (.int x10)], [.ref r378], mT x377)) rfl ?_
                      refine w_callL K (E := f_Act_beginCondition r378 x377) (g := fun (x379 : mS) => (none, mT x379)) (st_c (b := 1) (st := [.ref r378]) (args := []) (rest := []) rfl rfl rfl hr378) (m_Act_beginCondition (len := len) (xs := xs) r378 hr378 (d + 2) x377) (fun x379 => ?_)
                      refine w_go K 4 (c' := (223, [some (.ref 80), some (.int x10)], [], mT (sI x379 80 7 3))) rfl ?_
                      exact w_ret K rfl (hK _)
                    · refine w_go K 3 (c' := (200, [some (.ref 80), some (.int x10)], [.int 16, .int (gI s 80 3)], mT s)) rfl ?_
                      refine w_ine K rfl (fun _ => ?_) (fun _ => ?_)
                      · refine w_go K 3 (c' := (208, [some (.ref 80), some (.int x10)], [.int 1, .int (gI s 80 8)], mT s)) rfl ?_
                        refine w_ieq K rfl (fun _ => ?_) (fun _ => ?_)
                        · refine w_go K 2 (c' := (220, [some (.ref 80), some (.int x10)], [.int 1, .ref 80], mT s)) rfl ?_
                          refine w_callLT K (E := f_Parser_fail (1 : Int32) s) (g := fun (x380 : mS) => (none, mT x380)) rfl (m_Parser_fail (len := len) (xs := xs) (d + 2) (1 : Int32) s) (fun x380 => ?_)
                          refine w_go K 0 (c' := (223, [some (.ref 80), some (.int x10)], [], mT x380)) rfl ?_
                          exact w_ret K rfl (hK _)
                        · refine w_go K 1 (c' := (212, [some (.ref 80), some (.int x10)], [.ref 80], mT s)) rfl ?_
                          refine w_callL K (E := f_Parser_closeLine s) (g := fun (x381 : mS) => (none, mT x381)) rfl (m_Parser_closeLine (len := len) (xs := xs) (d + 0) s) (fun x381 => ?_)
                          refine w_go K 1 (c' := (223, [some (.ref 80), some (.int x10)], [], mT x381)) rfl ?_
                          exact w_ret K rfl (hK _)
                      · refine w_go K 2 (c' := (220, [some (.ref 80), some (.int x10)], [.int 1, .ref 80], mT s)) rfl ?_
                        refine w_callLT K (E := f_Parser_fail (1 : Int32) s) (g := fun (x382 : mS) => (none, mT x382)) rfl (m_Parser_fail (len := len) (xs := xs) (d + 2) (1 : Int32) s) (fun x382 => ?_)
                        refine w_go K 0 (c' := (223, [some (.ref 80), some (.int x10)], [], mT x382)) rfl ?_
                        exact w_ret K rfl (hK _)
                  · refine w_go K 3 (c' := (200, [some (.ref 80), some (.int x10)], [.int 16, .int (gI s 80 3)], mT s)) rfl ?_
                    refine w_ine K rfl (fun _ => ?_) (fun _ => ?_)
                    · refine w_go K 3 (c' := (208, [some (.ref 80), some (.int x10)], [.int 1, .int (gI s 80 8)], mT s)) rfl ?_
                      refine w_ieq K rfl (fun _ => ?_) (fun _ => ?_)
                      · refine w_go K 2 (c' := (220, [some (.ref 80), some (.int x10)], [.int 1, .ref 80], mT s)) rfl ?_
                        refine w_callLT K (E := f_Parser_fail (1 : Int32) s) (g := fun (x383 : mS) => (none, mT x383)) rfl (m_Parser_fail (len := len) (xs := xs) (d + 2) (1 : Int32) s) (fun x383 => ?_)
                        refine w_go K 0 (c' := (223, [some (.ref 80), some (.int x10)], [], mT x383)) rfl ?_
                        exact w_ret K rfl (hK _)
                      · refine w_go K 1 (c' := (212, [some (.ref 80), some (.int x10)], [.ref 80], mT s)) rfl ?_
                        refine w_callL K (E := f_Parser_closeLine s) (g := fun (x384 : mS) => (none, mT x384)) rfl (m_Parser_closeLine (len := len) (xs := xs) (d + 0) s) (fun x384 => ?_)
                        refine w_go K 1 (c' := (223, [some (.ref 80), some (.int x10)], [], mT x384)) rfl ?_
                        exact w_ret K rfl (hK _)
                    · refine w_go K 2 (c' := (220, [some (.ref 80), some (.int x10)], [.int 1, .ref 80], mT s)) rfl ?_
                      refine w_callLT K (E := f_Parser_fail (1 : Int32) s) (g := fun (x385 : mS) => (none, mT x385)) rfl (m_Parser_fail (len := len) (xs := xs) (d + 2) (1 : Int32) s) (fun x385 => ?_)
                      refine w_go K 0 (c' := (223, [some (.ref 80), some (.int x10)], [], mT x385)) rfl ?_
                      exact w_ret K rfl (hK _)
              · refine w_go K 2 (c' := (132, [some (.ref 80), some (.int x10)], [.int 3, .ref 80], mT s)) rfl ?_
                refine w_callL K (E := f_Parser_operate (3 : Int32) s) (g := fun (x386 : mS) => (none, mT x386)) rfl (m_Parser_operate (len := len) (xs := xs) (d + 0) (3 : Int32) s) (fun x386 => ?_)
                refine w_go K 1 (c' := (223, [some (.ref 80), some (.int x10)], [], mT x386)) rfl ?_
                exact w_ret K rfl (hK _)
            · refine w_go K 3 (c' := (123, [some (.ref 80), some (.int x10)], [.int 13, .int (gI s 80 3)], mT s)) rfl ?_
              refine w_ine K rfl (fun _ => ?_) (fun _ => ?_)
              · refine w_go K 1 (c' := (127, [some (.ref 80), some (.int x10)], [.int x10], mT s)) rfl ?_
                refine w_zeq K rfl (fun _ => ?_) (fun _ => ?_)
                · refine w_go K 3 (c' := (144, [some (.ref 80), some (.int x10)], [.int 22, .int (gI s 80 3)], mT s)) rfl ?_
                  refine w_ine K rfl (fun _ => ?_) (fun _ => ?_)
                  · refine w_go K 1 (c' := (148, [some (.ref 80), some (.int x10)], [.int x10], mT s)) rfl ?_
                    refine w_zeq K rfl (fun _ => ?_) (fun _ => ?_)
                    · refine w_go K 3 (c' := (164, [some (.ref 80), some (.int x10)], [.int 12, .int (gI s 80 3)], mT s)) rfl ?_
                      refine w_ine K rfl (fun _ => ?_) (fun _ => ?_)
                      · refine w_go K 2 (c' := (171, [some (.ref 80), some (.int x10)], [.int (gI s 80 8)], mT s)) rfl ?_
                        refine w_zne K rfl (fun _ => ?_) (fun _ => ?_)
                        · refine w_go K 2 (c' := (176, [some (.ref 80), some (.int x10)], [.int 1, .ref 80], mT s)) rfl ?_
                          refine w_callL K (E := f_Parser_unwind (1 : Int32) s) (g := fun (x387 : mS) => (none, mT x387)) rfl (m_Parser_unwind (len := len) (xs := xs) (d + 1) (1 : Int32) s) (fun x387 => ?_)
                          refine w_go K 1 (c' := (180, [some (.ref 80), some (.int x10)], [.ref 80], mT x387)) rfl ?_
                          refine w_gP4 K rfl (fun r388 hr388 => ?_)
                          refine w_go K 0 (c' := (183, [some (.ref 80), some (.int x10)], [.ref r388], mT x387)) rfl ?_
                          refine w_callL K (E := f_Act_beginCondition r388 x387) (g := fun (x389 : mS) => (none, mT x389)) (st_c (b := 1) (st := [.ref r388]) (args := []) (rest := []) rfl rfl rfl hr388) (m_Act_beginCondition (len := len) (xs := xs) r388 hr388 (d + 2) x387) (fun x389 => ?_)
                          refine w_go K 4 (c' := (223, [some (.ref 80), some (.int x10)], [], mT (sI x389 80 7 3))) rfl ?_
                          exact w_ret K rfl (hK _)
                        · refine w_go K 3 (c' := (200, [some (.ref 80), some (.int x10)], [.int 16, .int (gI s 80 3)], mT s)) rfl ?_
                          refine w_ine K rfl (fun _ => ?_) (fun _ => ?_)
                          · refine w_go K 3 (c' := (208, [some (.ref 80), some (.int x10)], [.int 1, .int (gI s 80 8)], mT s)) rfl ?_
                            refine w_ieq K rfl (fun _ => ?_) (fun _ => ?_)
                            · refine w_go K 2 (c' := (220, [some (.ref 80), some (.int x10)], [.int 1, .ref 80], mT s)) rfl ?_
                              refine w_callLT K (E := f_Parser_fail (1 : Int32) s) (g := fun (x390 : mS) => (none, mT x390)) rfl (m_Parser_fail (len := len) (xs := xs) (d + 2) (1 : Int32) s) (fun x390 => ?_)
                              refine w_go K 0 (c' := (223, [some (.ref 80), some (.int x10)], [], mT x390)) rfl ?_
                              exact w_ret K rfl (hK _)
                            · refine w_go K 1 (c' := (212, [some (.ref 80), some (.int x10)], [.ref 80], mT s)) rfl ?_
                              refine w_callL K (E := f_Parser_closeLine s) (g := fun (x391 : mS) => (none, mT x391)) rfl (m_Parser_closeLine (len := len) (xs := xs) (d + 0) s) (fun x391 => ?_)
                              refine w_go K 1 (c' := (223, [some (.ref 80), some (.int x10)], [], mT x391)) rfl ?_
                              exact w_ret K rfl (hK _)
                          · refine w_go K 2 (c' := (220, [some (.ref 80), some (.int x10)], [.int 1, .ref 80], mT s)) rfl ?_
                            refine w_callLT K (E := f_Parser_fail (1 : Int32) s) (g := fun (x392 : mS) => (none, mT x392)) rfl (m_Parser_fail (len := len) (xs := xs) (d + 2) (1 : Int32) s) (fun x392 => ?_)
                            refine w_go K 0 (c' := (223, [some (.ref 80), some (.int x10)], [], mT x392)) rfl ?_
                            exact w_ret K rfl (hK _)
                      · refine w_go K 3 (c' := (200, [some (.ref 80), some (.int x10)], [.int 16, .int (gI s 80 3)], mT s)) rfl ?_
                        refine w_ine K rfl (fun _ => ?_) (fun _ => ?_)
                        · refine w_go K 3 (c' := (208, [some (.ref 80), some (.int x10)], [.int 1, .int (gI s 80 8)], mT s)) rfl ?_
                          refine w_ieq K rfl (fun _ => ?_) (fun _ => ?_)
                          · refine w_go K 2 (c' := (220, [some (.ref 80), some (.int x10)], [.int 1, .ref 80], mT s)) rfl ?_
                            refine w_callLT K (E := f_Parser_fail (1 : Int32) s) (g := fun (x393 : mS) => (none, mT x393)) rfl (m_Parser_fail (len := len) (xs := xs) (d + 2) (1 : Int32) s) (fun x393 => ?_)
                            refine w_go K 0 (c' := (223, [some (.ref 80), some (.int x10)], [], mT x393)) rfl ?_
                            exact w_ret K rfl (hK _)
                          · refine w_go K 1 (c' := (212, [some (.ref 80), some (.int x10)], [.ref 80], mT s)) rfl ?_
                            refine w_callL K (E := f_Parser_closeLine s) (g := fun (x394 : mS) => (none, mT x394)) rfl (m_Parser_closeLine (len := len) (xs := xs) (d + 0) s) (fun x394 => ?_)
                            refine w_go K 1 (c' := (223, [some (.ref 80), some (.int x10)], [], mT x394)) rfl ?_
                            exact w_ret K rfl (hK _)
                        · refine w_go K 2 (c' := (220, [some (.ref 80), some (.int x10)], [.int 1, .ref 80], mT s)) rfl ?_
                          refine w_callLT K (E := f_Parser_fail (1 : Int32) s) (g := fun (x395 : mS) => (none, mT x395)) rfl (m_Parser_fail (len := len) (xs := xs) (d + 2) (1 : Int32) s) (fun x395 => ?_)
                          refine w_go K 0 (c' := (223, [some (.ref 80), some (.int x10)], [], mT x395)) rfl ?_
                          exact w_ret K rfl (hK _)
                    · refine w_go K 1 (c' := (152, [some (.ref 80), some (.int x10)], [.ref 80], mT s)) rfl ?_
                      refine w_callL K (E := f_Parser_closeBracket s) (g := fun (x396 : mS) => (none, mT x396)) rfl (m_Parser_closeBracket (len := len) (xs := xs) (d + 0) s) (fun x396 => ?_)
                      refine w_go K 1 (c' := (223, [some (.ref 80), some (.int x10)], [], mT x396)) rfl ?_
                      exact w_ret K rfl (hK _)
                  · refine w_go K 3 (c' := (164, [some (.ref 80), some (.int x10)], [.int 12, .int (gI s 80 3)], mT s)) rfl ?_
                    refine w_ine K rfl (fun _ => ?_) (fun _ => ?_)
                    · refine w_go K 2 (c' := (171, [some (.ref 80), some (.int x10)], [.int (gI s 80 8)], mT s)) rfl ?_
                      refine w_zne K rfl (fun _ => ?_) (fun _ => ?_)
                      · refine w_go K 2 (c' := (176, [some (.ref 80), some (.int x10)], [.int 1, .ref 80], mT s)) rfl ?_
                        refine w_callL K (E := f_Parser_unwind (1 : Int32) s) (g := fun (x397 : mS) => (none, mT x397)) rfl (m_Parser_unwind (len := len) (xs := xs) (d + 1) (1 : Int32) s) (fun x397 => ?_)
                        refine w_go K 1 (c' := (180, [some (.ref 80), some (.int x10)], [.ref 80], mT x397)) rfl ?_
                        refine w_gP4 K rfl (fun r398 hr398 => ?_)
                        refine w_go K 0 (c' := (183, [some (.ref 80), some (.int x10)], [.ref r398], mT x397)) rfl ?_
                        refine w_callL K (E := f_Act_beginCondition r398 x397) (g := fun (x399 : mS) => (none, mT x399)) (st_c (b := 1) (st := [.ref r398]) (args := []) (rest := []) rfl rfl rfl hr398) (m_Act_beginCondition (len := len) (xs := xs) r398 hr398 (d + 2) x397) (fun x399 => ?_)
                        refine w_go K 4 (c' := (223, [some (.ref 80), some (.int x10)], [], mT (sI x399 80 7 3))) rfl ?_
                        exact w_ret K rfl (hK _)
                      · refine w_go K 3 (c' := (200, [some (.ref 80), some (.int x10)], [.int 16, .int (gI s 80 3)], mT s)) rfl ?_
                        refine w_ine K rfl (fun _ => ?_) (fun _ => ?_)
                        · refine w_go K 3 (c' := (208, [some (.ref 80), some (.int x10)], [.int 1, .int (gI s 80 8)], mT s)) rfl ?_
                          refine w_ieq K rfl (fun _ => ?_) (fun _ => ?_)
                          · refine w_go K 2 (c' := (220, [some (.ref 80), some (.int x10)], [.int 1, .ref 80], mT s)) rfl ?_
                            refine w_callLT K (E := f_Parser_fail (1 : Int32) s) (g := fun (x400 : mS) => (none, mT x400)) rfl (m_Parser_fail (len := len) (xs := xs) (d + 2) (1 : Int32) s) (fun x400 => ?_)
                            refine w_go K 0 (c' := (223, [some (.ref 80), some (.int x10)], [], mT x400)) rfl ?_
                            exact w_ret K rfl (hK _)
                          · refine w_go K 1 (c' := (212, [some (.ref 80), some (.int x10)], [.ref 80], mT s)) rfl ?_
                            refine w_callL K (E := f_Parser_closeLine s) (g := fun (x401 : mS) => (none, mT x401)) rfl (m_Parser_closeLine (len := len) (xs := xs) (d + 0) s) (fun x401 => ?_)
                            refine w_go K 1 (c' := (223, [some (.ref 80), some (.int x10)], [], mT x401)) rfl ?_
                            exact w_ret K rfl (hK _)
                        · refine w_go K 2 (c' := (220, [some (.ref 80), some (.int x10)], [.int 1, .ref 80], mT s)) rfl ?_
                          refine w_callLT K (E := f_Parser_fail (1 : Int32) s) (g := fun (x402 : mS) => (none, mT x402)) rfl (m_Parser_fail (len := len) (xs := xs) (d + 2) (1 : Int32) s) (fun x402 => ?_)
                          refine w_go K 0 (c' := (223, [some (.ref 80), some (.int x10)], [], mT x402)) rfl ?_
                          exact w_ret K rfl (hK _)
                    · refine w_go K 3 (c' := (200, [some (.ref 80), some (.int x10)], [.int 16, .int (gI s 80 3)], mT s)) rfl ?_
                      refine w_ine K rfl (fun _ => ?_) (fun _ => ?_)
                      · refine w_go K 3 (c' := (208, [some (.ref 80), some (.int x10)], [.int 1, .int (gI s 80 8)], mT s)) rfl ?_
                        refine w_ieq K rfl (fun _ => ?_) (fun _ => ?_)
                        · refine w_go K 2 (c' := (220, [some (.ref 80), some (.int x10)], [.int 1, .ref 80], mT s)) rfl ?_
                          refine w_callLT K (E := f_Parser_fail (1 : Int32) s) (g := fun (x403 : mS) => (none, mT x403)) rfl (m_Parser_fail (len := len) (xs := xs) (d + 2) (1 : Int32) s) (fun x403 => ?_)
                          refine w_go K 0 (c' := (223, [some (.ref 80), some (.int x10)], [], mT x403)) rfl ?_
                          exact w_ret K rfl (hK _)
                        · refine w_go K 1 (c' := (212, [some (.ref 80), some (.int x10)], [.ref 80], mT s)) rfl ?_
                          refine w_callL K (E := f_Parser_closeLine s) (g := fun (x404 : mS) => (none, mT x404)) rfl (m_Parser_closeLine (len := len) (xs := xs) (d + 0) s) (fun x404 => ?_)
                          refine w_go K 1 (c' := (223, [some (.ref 80), some (.int x10)], [], mT x404)) rfl ?_
                          exact w_ret K rfl (hK _)
                      · refine w_go K 2 (c' := (220, [some (.ref 80), some (.int x10)], [.int 1, .ref 80], mT s)) rfl ?_
                        refine w_callLT K (E := f_Parser_fail (1 : Int32) s) (g := fun (x405 : mS) => (none, mT x405)) rfl (m_Parser_fail (len := len) (xs := xs) (d + 2) (1 : Int32) s) (fun x405 => ?_)
                        refine w_go K 0 (c' := (223, [some (.ref 80), some (.int x10)], [], mT x405)) rfl ?_
                        exact w_ret K rfl (hK _)
                · refine w_go K 2 (c' := (132, [some (.ref 80), some (.int x10)], [.int 3, .ref 80], mT s)) rfl ?_
                  refine w_callL K (E := f_Parser_operate (3 : Int32) s) (g := fun (x406 : mS) => (none, mT x406)) rfl (m_Parser_operate (len := len) (xs := xs) (d + 0) (3 : Int32) s) (fun x406 => ?_)
                  refine w_go K 1 (c' := (223, [some (.ref 80), some (.int x10)], [], mT x406)) rfl ?_
                  exact w_ret K rfl (hK _)
              · refine w_go K 3 (c' := (144, [some (.ref 80), some (.int x10)], [.int 22, .int (gI s 80 3)], mT s)) rfl ?_
                refine w_ine K rfl (fun _ => ?_) (fun _ => ?_)
                · refine w_go K 1 (c' := (148, [some (.ref 80), some (.int x10)], [.int x10], mT s)) rfl ?_
                  refine w_zeq K rfl (fun _ => ?_) (fun _ => ?_)
                  · refine w_go K 3 (c' := (164, [some (.ref 80), some (.int x10)], [.int 12, .int (gI s 80 3)], mT s)) rfl ?_
                    refine w_ine K rfl (fun _ => ?_) (fun _ => ?_)
                    · refine w_go K 2 (c' := (171, [some (.ref 80), some (.int x10)], [.int (gI s 80 8)], mT s)) rfl ?_
                      refine w_zne K rfl (fun _ => ?_) (fun _ => ?_)
                      · refine w_go K 2 (c' := (176, [some (.ref 80), some (.int x10)], [.int 1, .ref 80], mT s)) rfl ?_
                        refine w_callL K (E := f_Parser_unwind (1 : Int32) s) (g := fun (x407 : mS) => (none, mT x407)) rfl (m_Parser_unwind (len := len) (xs := xs) (d + 1) (1 : Int32) s) (fun x407 => ?_)
                        refine w_go K 1 (c' := (180, [some (.ref 80), some (.int x10)], [.ref 80], mT x407)) rfl ?_
                        refine w_gP4 K rfl (fun r408 hr408 => ?_)
                        refine w_go K 0 (c' := (183, [some (.ref 80), some (.int x10)], [.ref r408], mT x407)) rfl ?_
                        refine w_callL K (E := f_Act_beginCondition r408 x407) (g := fun (x409 : mS) => (none, mT x409)) (st_c (b := 1) (st := [.ref r408]) (args := []) (rest := []) rfl rfl rfl hr408) (m_Act_beginCondition (len := len) (xs := xs) r408 hr408 (d + 2) x407) (fun x409 => ?_)
                        refine w_go K 4 (c' := (223, [some (.ref 80), some (.int x10)], [], mT (sI x409 80 7 3))) rfl ?_
                        exact w_ret K rfl (hK _)
                      · refine w_go K 3 (c' := (200, [some (.ref 80), some (.int x10)], [.int 16, .int (gI s 80 3)], mT s)) rfl ?_
                        refine w_ine K rfl (fun _ => ?_) (fun _ => ?_)
                        · refine w_go K 3 (c' := (208, [some (.ref 80), some (.int x10)], [.int 1, .int (gI s 80 8)], mT s)) rfl ?_
                          refine w_ieq K rfl (fun _ => ?_) (fun _ => ?_)
                          · refine w_go K 2 (c' := (220, [some (.ref 80), some (.int x10)], [.int 1, .ref 80], mT s)) rfl ?_
                            refine w_callLT K (E := f_Parser_fail (1 : Int32) s) (g := fun (x410 : mS) => (none, mT x410)) rfl (m_Parser_fail (len := len) (xs := xs) (d + 2) (1 : Int32) s) (fun x410 => ?_)
                            refine w_go K 0 (c' := (223, [some (.ref 80), some (.int x10)], [], mT x410)) rfl ?_
                            exact w_ret K rfl (hK _)
                          · refine w_go K 1 (c' := (212, [some (.ref 80), some (.int x10)], [.ref 80], mT s)) rfl ?_
                            refine w_callL K (E := f_Parser_closeLine s) (g := fun (x411 : mS) => (none, mT x411)) rfl (m_Parser_closeLine (len := len) (xs := xs) (d + 0) s) (fun x411 => ?_)
                            refine w_go K 1 (c' := (223, [some (.ref 80), some (.int x10)], [], mT x411)) rfl ?_
                            exact w_ret K rfl (hK _)
                        · refine w_go K 2 (c' := (220, [some (.ref 80), some (.int x10)], [.int 1, .ref 80], mT s)) rfl ?_
                          refine w_callLT K (E := f_Parser_fail (1 : Int32) s) (g := fun (x412 : mS) => (none, mT x412)) rfl (m_Parser_fail (len := len) (xs := xs) (d + 2) (1 : Int32) s) (fun x412 => ?_)
                          refine w_go K 0 (c' := (223, [some (.ref 80), some (.int x10)], [], mT x412)) rfl ?_
                          exact w_ret K rfl (hK _)
                    · refine w_go K 3 (c' := (200, [some (.ref 80), some (.int x10)], [.int 16, .int (gI s 80 3)], mT s)) rfl ?_
                      refine w_ine K rfl (fun _ => ?_) (fun _ => ?_)
                      · refine w_go K 3 (c' := (208, [some (.ref 80), some (.int x10)], [.int 1, .int (gI s 80 8)], mT s)) rfl ?_
                        refine w_ieq K rfl (fun _ => ?_) (fun _ => ?_)
                        · refine w_go K 2 (c' := (220, [some (.ref 80), some (.int x10)], [.int 1, .ref 80], mT s)) rfl ?_
                          refine w_callLT K (E := f_Parser_fail (1 : Int32) s) (g := fun (x413 : mS) => (none, mT x413)) rfl (m_Parser_fail (len := len) (xs := xs) (d + 2) (1 : Int32) s) (fun x413 => ?_)
                          refine w_go K 0 (c' := (223, [some (.ref 80), some (.int x10)], [], mT x413)) rfl ?_
                          exact w_ret K rfl (hK _)
                        · refine w_go K 1 (c' := (212, [some (.ref 80), some (.int x10)], [.ref 80], mT s)) rfl ?_
                          refine w_callL K (E := f_Parser_closeLine s) (g := fun (x414 : mS) => (none, mT x414)) rfl (m_Parser_closeLine (len := len) (xs := xs) (d + 0) s) (fun x414 => ?_)
                          refine w_go K 1 (c' := (223, [some (.ref 80), some (.int x10)], [], mT x414)) rfl ?_
                          exact w_ret K rfl (hK _)
                      · refine w_go K 2 (c' := (220, [some (.ref 80), some (.int x10)], [.int 1, .ref 80], mT s)) rfl ?_
                        refine w_callLT K (E := f_Parser_fail (1 : Int32) s) (g := fun (x415 : mS) => (none, mT x415)) rfl (m_Parser_fail (len := len) (xs := xs) (d + 2) (1 : Int32) s) (fun x415 => ?_)
                        refine w_go K 0 (c' := (223, [some (.ref 80), some (.int x10)], [], mT x415)) rfl ?_
                        exact w_ret K rfl (hK _)
                  · refine w_go K 1 (c' := (152, [some (.ref 80), some (.int x10)], [.ref 80], mT s)) rfl ?_
                    refine w_callL K (E := f_Parser_closeBracket s) (g := fun (x416 : mS) => (none, mT x416)) rfl (m_Parser_closeBracket (len := len) (xs := xs) (d + 0) s) (fun x416 => ?_)
                    refine w_go K 1 (c' := (223, [some (.ref 80), some (.int x10)], [], mT x416)) rfl ?_
                    exact w_ret K rfl (hK _)
                · refine w_go K 3 (c' := (164, [some (.ref 80), some (.int x10)], [.int 12, .int (gI s 80 3)], mT s)) rfl ?_
                  refine w_ine K rfl (fun _ => ?_) (fun _ => ?_)
                  · refine w_go K 2 (c' := (171, [some (.ref 80), some (.int x10)], [.int (gI s 80 8)], mT s)) rfl ?_
                    refine w_zne K rfl (fun _ => ?_) (fun _ => ?_)
                    · refine w_go K 2 (c' := (176, [some (.ref 80), some (.int x10)], [.int 1, .ref 80], mT s)) rfl ?_
                      refine w_callL K (E := f_Parser_unwind (1 : Int32) s) (g := fun (x417 : mS) => (none, mT x417)) rfl (m_Parser_unwind (len := len) (xs := xs) (d + 1) (1 : Int32) s) (fun x417 => ?_)
                      refine w_go K 1 (c' := (180, [some (.ref 80), some (.int x10)], [.ref 80], mT x417)) rfl ?_
                      refine w_gP4 K rfl (fun r418 hr418 => ?_)
                      refine w_go K 0 (c' := (183, [some (.ref 80), some (.int x10)], [.ref r418], mT x417)) rfl ?_
                      refine w_callL K (E := f_Act_beginCondition r418 x417) (g := fun (x419 : mS) => (none, mT x419)) (st_c (b := 1) (st := [.ref r418]) (args := []) (rest := []) rfl rfl rfl hr418) (m_Act_beginCondition (len := len) (xs := xs) r418 hr418 (d + 2) x417) (fun x419 => ?_)
                      refine w_go K 4 (c' := (223, [some (.ref 80), some (.int x10)], [], mT (sI x419 80 7 3))) rfl ?_
                      exact w_ret K rfl (hK _)
                    · refine w_go K 3 (c' := (200, [some (.ref 80), some (.int x10)], [.int 16, .int (gI s 80 3)], mT s)) rfl ?_
                      refine w_ine K rfl (fun _ => ?_) (fun _ => ?_)
                      · refine w_go K 3 (c' := (208, [some (.ref 80), some (.int x10)], [.int 1, .int (gI s 80 8)], mT s)) rfl ?_
                        refine w_ieq K rfl (fun _ => ?_) (fun _ => ?_)
                        · refine w_go K 2 (c' := (220, [some (.ref 80), some (.int x10)], [.int 1, .ref 80], mT s)) rfl ?_
                          refine w_callLT K (E := f_Parser_fail (1 : Int32) s) (g := fun (x420 : mS) => (none, mT x420)) rfl (m_Parser_fail (len := len) (xs := xs) (d + 2) (1 : Int32) s) (fun x420 => ?_)
                          refine w_go K 0 (c' := (223, [some (.ref 80), some (.int x10)], [], mT x420)) rfl ?_
                          exact w_ret K rfl (hK _)
                        · refine w_go K 1 (c' := (212, [some (.ref 80), some (.int x10)], [.ref 80], mT s)) rfl ?_
                          refine w_callL K (E := f_Parser_closeLine s) (g := fun (x421 : mS) => (none, mT x421)) rfl (m_Parser_closeLine (len := len) (xs := xs) (d + 0) s) (fun x421 => ?_)
                          refine w_go K 1 (c' := (223, [some (.ref 80), some (.int x10)], [], mT x421)) rfl ?_
                          exact w_ret K rfl (hK _)
                      · refine w_go K 2 (c' := (220, [some (.ref 80), some (.int x10)], [.int 1, .ref 80], mT s)) rfl ?_
                        refine w_callLT K (E := f_Parser_fail (1 : Int32) s) (g := fun (x422 : mS) => (none, mT x422)) rfl (m_Parser_fail (len := len) (xs := xs) (d + 2) (1 : Int32) s) (fun x422 => ?_)
                        refine w_go K 0 (c' := (223, [some (.ref 80), some (.int x10)], [], mT x422)) rfl ?_
                        exact w_ret K rfl (hK _)
                  · refine w_go K 3 (c' := (200, [some (.ref 80), some (.int x10)], [.int 16, .int (gI s 80 3)], mT s)) rfl ?_
                    refine w_ine K rfl (fun _ => ?_) (fun _ => ?_)
                    · refine w_go K 3 (c' := (208, [some (.ref 80), some (.int x10)], [.int 1, .int (gI s 80 8)], mT s)) rfl ?_
                      refine w_ieq K rfl (fun _ => ?_) (fun _ => ?_)
                      · refine w_go K 2 (c' := (220, [some (.ref 80), some (.int x10)], [.int 1, .ref 80], mT s)) rfl ?_
                        refine w_callLT K (E := f_Parser_fail (1 : Int32) s) (g := fun (x423 : mS) => (none, mT x423)) rfl (m_Parser_fail (len := len) (xs := xs) (d + 2) (1 : Int32) s) (fun x423 => ?_)
                        refine w_go K 0 (c' := (223, [some (.ref 80), some (.int x10)], [], mT x423)) rfl ?_
                        exact w_ret K rfl (hK _)
                      · refine w_go K 1 (c' := (212, [some (.ref 80), some (.int x10)], [.ref 80], mT s)) rfl ?_
                        refine w_callL K (E := f_Parser_closeLine s) (g := fun (x424 : mS) => (none, mT x424)) rfl (m_Parser_closeLine (len := len) (xs := xs) (d + 0) s) (fun x424 => ?_)
                        refine w_go K 1 (c' := (223, [some (.ref 80), some (.int x10)], [], mT x424)) rfl ?_
                        exact w_ret K rfl (hK _)
                    · refine w_go K 2 (c' := (220, [some (.ref 80), some (.int x10)], [.int 1, .ref 80], mT s)) rfl ?_
                      refine w_callLT K (E := f_Parser_fail (1 : Int32) s) (g := fun (x425 : mS) => (none, mT x425)) rfl (m_Parser_fail (len := len) (xs := xs) (d + 2) (1 : Int32) s) (fun x425 => ?_)
                      refine w_go K 0 (c' := (223, [some (.ref 80), some (.int x10)], [], mT x425)) rfl ?_
                      exact w_ret K rfl (hK _)
          · refine w_go K 3 (c' := (84, [some (.ref 80), some (.int x10)], [.int 25, .int (gI s 80 3)], mT s)) rfl ?_
            refine w_igt K rfl (fun _ => ?_) (fun _ => ?_)
            · refine w_go K 3 (c' := (114, [some (.ref 80), some (.int x10)], [.int 14, .int (gI s 80 3)], mT s)) rfl ?_
              refine w_ieq K rfl (fun _ => ?_) (fun _ => ?_)
              · refine w_go K 1 (c' := (127, [some (.ref 80), some (.int x10)], [.int x10], mT s)) rfl ?_
                refine w_zeq K rfl (fun _ => ?_) (fun _ => ?_)
                · refine w_go K 3 (c' := (144, [some (.ref 80), some (.int x10)], [.int 22, .int (gI s 80 3)], mT s)) rfl ?_
                  refine w_ine K rfl (fun _ => ?_) (fun _ => ?_)
                  · refine w_go K 1 (c' := (148, [some (.ref 80), some (.int x10)], [.int x10], mT s)) rfl ?_
                    refine w_zeq K rfl (fun _ => ?_) (fun _ => ?_)
                    · refine w_go K 3 (c' := (164, [some (.ref 80), some (.int x10)], [.int 12, .int (gI s 80 3)], mT s)) rfl ?_
                      refine w_ine K rfl (fun _ => ?_) (fun _ => ?_)
                      · refine w_go K 2 (c' := (171, [some (.ref 80), some (.int x10)], [.int (gI s 80 8)], mT s)) rfl ?_
                        refine w_zne K rfl (fun _ => ?_) (fun _ => ?_)
                        · refine w_go K 2 (c' := (176, [some (.ref 80), some (.int x10)], [.int 1, .ref 80], mT s)) rfl ?_
                          refine w_callL K (E := f_Parser_unwind (1 : Int32) s) (g := fun (x426 : mS) => (none, mT x426)) rfl (m_Parser_unwind (len := len) (xs := xs) (d + 1) (1 : Int32) s) (fun x426 => ?_)
                          refine w_go K 1 (c' := (180, [some (.ref 80), some (.int x10)], [.ref 80], mT x426)) rfl ?_
                          refine w_gP4 K rfl (fun r427 hr427 => ?_)
                          refine w_go K 0 (c' := (183, [some (.ref 80), some (.int x10)], [.ref r427], mT x426)) rfl ?_
                          refine w_callL K (E := f_Act_beginCondition r427 x426) (g := fun (x428 : mS) => (none, mT x428)) (st_c (b := 1) (st := [.ref r427]) (args := []) (rest := []) rfl rfl rfl hr427) (m_Act_beginCondition (len := len) (xs := xs) r427 hr427 (d + 2) x426) (fun x428 => ?_)
                          refine w_go K 4 (c' := (223, [some (.ref 80), some (.int x10)], [], mT (sI x428 80 7 3))) rfl ?_
                          exact w_ret K rfl (hK _)
                        · refine w_go K 3 (c' := (200, [some (.ref 80), some (.int x10)], [.int 16, .int (gI s 80 3)], mT s)) rfl ?_
                          refine w_ine K rfl (fun _ => ?_) (fun _ => ?_)
                          · refine w_go K 3 (c' := (208, [some (.ref 80), some (.int x10)], [.int 1, .int (gI s 80 8)], mT s)) rfl ?_
                            refine w_ieq K rfl (fun _ => ?_) (fun _ => ?_)
                            · refine w_go K 2 (c' := (220, [some (.ref 80), some (.int x10)], [.int 1, .ref 80], mT s)) rfl ?_
                              refine w_callLT K (E := f_Parser_fail (1 : Int32) s) (g := fun (x429 : mS) => (none, mT x429)) rfl (m_Parser_fail (len := len) (xs := xs) (d + 2) (1 : Int32) s) (fun x429 => ?_)
                              refine w_go K 0 (c' := (223, [some (.ref 80), some (.int x10)], [], mT x429)) rfl ?_
                              exact w_ret K rfl (hK _)
                            · refine w_go K 1 (c' := (212, [some (.ref 80), some (.int x10)], [.ref 80], mT s)) rfl ?_
                              refine w_callL K (E := f_Parser_closeLine s) (g := fun (x430 : mS) => (none, mT x430)) rfl (m_Parser_closeLine (len := len) (xs := xs) (d + 0) s) (fun x430 => ?_)
                              refine w_go K 1 (c' := (223, [some (.ref 80), some (.int x10)], [], mT x430)) rfl ?_
                              exact w_ret K rfl (hK _)
                          · refine w_go K 2 (c' := (220, [some (.ref 80), some (.int x10)], [.int 1, .ref 80], mT s)) rfl ?_
                            refine w_callLT K (E := f_Parser_fail (1 : Int32) s) (g := fun (x431 : mS) => (none, mT x431)) rfl (m_Parser_fail (len := len) (xs := xs) (d + 2) (1 : Int32) s) (fun x431 => ?_)
                            refine w_go K 0 (c' := (223, [some (.ref 80), some (.int x10)], [], mT x431)) rfl ?_
                            exact w_ret K rfl (hK _)
                      · refine w_go K 3 (c' := (200, [some (.ref 80), some (.int x10)], [.int 16, .int (gI s 80 3)], mT s)) rfl ?_
                        refine w_ine K rfl (fun _ => ?_) (fun _ => ?_)
                        · refine w_go K 3 (c' := (208, [some (.ref 80), some (.int x10)], [.int 1, .int (gI s 80 8)], mT s)) rfl ?_
                          refine w_ieq K rfl (fun _ => ?_) (fun _ => ?_)
                          · refine w_go K 2 (c' := (220, [some (.ref 80), some (.int x10)], [.int 1, .ref 80], mT s)) rfl ?_
                            refine w_callLT K (E := f_Parser_fail (1 : Int32) s) (g := fun (x432 : mS) => (none, mT x432)) rfl (m_Parser_fail (len := len) (xs := xs) (d + 2) (1 : Int32) s) (fun x432 => ?_)
                            refine w_go K 0 (c' := (223, [some (.ref 80), some (.int x10)], [], mT x432)) rfl ?_
                            exact w_ret K rfl (hK _)
                          · refine w_go K 1 (c' := (212, [some (.ref 80), some (.int x10)], [.ref 80], mT s)) rfl ?_
                            refine w_callL K (E := f_Parser_closeLine s) (g := fun (x433 : mS) => (none, mT x433)) rfl (m_Parser_closeLine (len := len) (xs := xs) (d + 0) s) (fun x433 => ?_)
                            refine w_go K 1 (c' := (223, [some (.ref 80), some (.int x10)], [], mT x433)) rfl ?_
                            exact w_ret K rfl (hK _)
                        · refine w_go K 2 (c' := (220, [some (.ref 80), some (.int x10)], [.int 1, .ref 80], mT s)) rfl ?_
                          refine w_callLT K (E := f_Parser_fail (1 : Int32) s) (g := fun (x434 : mS) => (none, mT x434)) rfl (m_Parser_fail (len := len) (xs := xs) (d + 2) (1 : Int32) s) (fun x434 => ?_)
                          refine w_go K 0 (c' := (223, [some (.ref 80), some (.int x10)], [], mT x434)) rfl ?_
                          exact w_ret K rfl (hK _)
                    · refine w_go K 1 (c' := (152, [some (.ref 80), some (.int x10)], [.ref 80], mT s)) rfl ?_
                      refine w_callL K (E := f_Parser_closeBracket s) (g := fun (x435 : mS) => (none, mT x435)) rfl (m_Parser_closeBracket (len := len) (xs := xs) (d + 0) s) (fun x435 => ?_)
                      refine w_go K 1 (c' := (223, [some (.ref 80), some (.int x10)], [], mT x435)) rfl ?_
                      exact w_ret K rfl (hK _)
                  · refine w_go K 3 (c' := (164, [some (.ref 80), some (.int x10)], [.int 12, .int (gI s 80 3)], mT s)) rfl ?_
                    refine w_ine K rfl (fun _ => ?_) (fun _ => ?_)
                    · refine w_go K 2 (c' := (171, [some (.ref 80), some (.int x10)], [.int (gI s 80 8)], mT s)) rfl ?_
                      refine w_zne K rfl (fun _ => ?_) (fun _ => ?_)
                      · refine w_go K 2 (c' := (176, [some (.ref 80), some (.int x10)], [.int 1, .ref 80], mT s)) rfl ?_
                        refine w_callL K (E := f_Parser_unwind (1 : Int32) s) (g := fun (x436 : mS) => (none, mT x436)) rfl (m_Parser_unwind (len := len) (xs := xs) (d + 1) (1 : Int32) s) (fun x436 => ?_)
                        refine w_go K 1 (c' := (180, [some (.ref 80), some (.int x10)], [.ref 80], mT x436)) rfl ?_
                        refine w_gP4 K rfl (fun r437 hr437 => ?_)
                        refine w_go K 0 (c' := (183, [some (.ref 80), some (.int x10)], [.ref r437], mT x436)) rfl ?_
                        refine w_callL K (E := f_Act_beginCondition r437 x436) (g := fun (x438 : mS) => (none, mT x438)) (st_c (b := 1) (st := [.ref r437]) (args := []) (rest := []) rfl rfl rfl hr437) (m_Act_beginCondition (len := len) (xs := xs) r437 hr437 (d + 2) x436) (fun x438 => ?_)
                        refine w_go K 4 (c' := (223, [some (.ref 80), some (.int x10)], [], mT (sI x438 80 7 3))) rfl ?_
                        exact w_ret K rfl (hK _)
                      · refine w_go K 3 (c' := (200, [some (.ref 80), some (.int x10)], [.int 16, .int (gI s 80 3)], mT s)) rfl ?_
                        refine w_ine K rfl (fun _ => ?_) (fun _ => ?_)
                        · refine w_go K 3 (c' := (208, [some (.ref 80), some (.int x10)], [.int 1, .int (gI s 80 8)], mT s)) rfl ?_
                          refine w_ieq K rfl (fun _ => ?_) (fun _ => ?_)
                          · refine w_go K 2 (c' := (220, [some (.ref 80), some (.int x10)], [.int 1, .ref 80], mT s)) rfl ?_
                            refine w_callLT K (E := f_Parser_fail (1 : Int32) s) (g := fun (x439 : mS) => (none, mT x439)) rfl (m_Parser_fail (len := len) (xs := xs) (d + 2) (1 : Int32) s) (fun x439 => ?_)
                            refine w_go K 0 (c' := (223, [some (.ref 80), some (.int x10)], [], mT x439)) rfl ?_
                            exact w_ret K rfl (hK _)
                          · refine w_go K 1 (c' := (212, [some (.ref 80), some (.int x10)], [.ref 80], mT s)) rfl ?_
                            refine w_callL K (E := f_Parser_closeLine s) (g := fun (x440 : mS) => (none, mT x440)) rfl (m_Parser_closeLine (len := len) (xs := xs) (d + 0) s) (fun x440 => ?_)
                            refine w_go K 1 (c' := (223, [some (.ref 80), some (.int x10)], [], mT x440)) rfl ?_
                            exact w_ret K rfl (hK _)
                        · refine w_go K 2 (c' := (220, [some (.ref 80), some (.int x10)], [.int 1, .ref 80], mT s)) rfl ?_
                          refine w_callLT K (E := f_Parser_fail (1 : Int32) s) (g := fun (x441 : mS) => (none, mT x441)) rfl (m_Parser_fail (len := len) (xs := xs) (d + 2) (1 : Int32) s) (fun x441 => ?_)
                          refine w_go K 0 (c' := (223, [some (.ref 80), some (.int x10)], [], mT x441)) rfl ?_
                          exact w_ret K rfl (hK _)
                    · refine w_go K 3 (c' := (200, [some (.ref 80), some (.int x10)], [.int 16, .int (gI s 80 3)], mT s)) rfl ?_
                      refine w_ine K rfl (fun _ => ?_) (fun _ => ?_)
                      · refine w_go K 3 (c' := (208, [some (.ref 80), some (.int x10)], [.int 1, .int (gI s 80 8)], mT s)) rfl ?_
                        refine w_ieq K rfl (fun _ => ?_) (fun _ => ?_)
                        · refine w_go K 2 (c' := (220, [some (.ref 80), some (.int x10)], [.int 1, .ref 80], mT s)) rfl ?_
                          refine w_callLT K (E := f_Parser_fail (1 : Int32) s) (g := fun (x442 : mS) => (none, mT x442)) rfl (m_Parser_fail (len := len) (xs := xs) (d + 2) (1 : Int32) s) (fun x442 => ?_)
                          refine w_go K 0 (c' := (223, [some (.ref 80), some (.int x10)], [], mT x442)) rfl ?_
                          exact w_ret K rfl (hK _)
                        · refine w_go K 1 (c' := (212, [some (.ref 80), some (.int x10)], [.ref 80], mT s)) rfl ?_
                          refine w_callL K (E := f_Parser_closeLine s) (g := fun (x443 : mS) => (none, mT x443)) rfl (m_Parser_closeLine (len := len) (xs := xs) (d + 0) s) (fun x443 => ?_)
                          refine w_go K 1 (c' := (223, [some (.ref 80), some (.int x10)], [], mT x443)) rfl ?_
                          exact w_ret K rfl (hK _)
                      · refine w_go K 2 (c' := (220, [some (.ref 80), some (.int x10)], [.int 1, .ref 80], mT s)) rfl ?_
                        refine w_callLT K (E := f_Parser_fail (1 : Int32) s) (g := fun (x444 : mS) => (none, mT x444)) rfl (m_Parser_fail (len := len) (xs := xs) (d + 2) (1 : Int32) s) (fun x444 => ?_)
                        refine w_go K 0 (c' := (223, [some (.ref 80), some (.int x10)], [], mT x444)) rfl ?_
                        exact w_ret K rfl (hK _)
                · refine w_go K 2 (c' := (132, [some (.ref 80), some (.int x10)], [.int 3, .ref 80], mT s)) rfl ?_
                  refine w_callL K (E := f_Parser_operate (3 : Int32) s) (g := fun (x445 : mS) => (none, mT x445)) rfl (m_Parser_operate (len := len) (xs := xs) (d + 0) (3 : Int32) s) (fun x445 => ?_)
                  refine w_go K 1 (c' := (223, [some (.ref 80), some (.int x10)], [], mT x445)) rfl ?_
                  exact w_ret K rfl (hK _)
              · refine w_go K 3 (c' := (123, [some (.ref 80), some (.int x10)], [.int 13, .int (gI s 80 3)], mT s)) rfl ?_
                refine w_ine K rfl (fun _ => ?_) (fun _ => ?_)
                · refine w_go K 1 (c' := (127, [some (.ref 80), some (.int x10)], [.int x10], mT s)) rfl ?_
                  refine w_zeq K rfl (fun _ => ?_) (fun _ => ?_)
                  · refine w_go K 3 (c' := (144, [some (.ref 80), some (.int x10)], [.int 22, .int (gI s 80 3)], mT s)) rfl ?_
                    refine w_ine K rfl (fun _ => ?_) (fun _ => ?_)
                    · refine w_go K 1 (c' := (148, [some (.ref 80), some (.int x10)], [.int x10], mT s)) rfl ?_
                      refine w_zeq K rfl (fun _ => ?_) (fun _ => ?_)
                      · refine w_go K 3 (c' := (164, [some (.ref 80), some (.int x10)], [.int 12, .int (gI s 80 3)], mT s)) rfl ?_
                        refine w_ine K rfl (fun _ => ?_) (fun _ => ?_)
                        · refine w_go K 2 (c' := (171, [some (.ref 80), some (.int x10)], [.int (gI s 80 8)], mT s)) rfl ?_
                          refine w_zne K rfl (fun _ => ?_) (fun _ => ?_)
                          · refine w_go K 2 (c' := (176, [some (.ref 80), some (.int x10)], [.int 1, .ref 80], mT s)) rfl ?_
                            refine w_callL K (E := f_Parser_unwind (1 : Int32) s) (g := fun (x446 : mS) => (none, mT x446)) rfl (m_Parser_unwind (len := len) (xs := xs) (d + 1) (1 : Int32) s) (fun x446 => ?_)
                            refine w_go K 1 (c' := (180, [some (.ref 80), some (.int x10)], [.ref 80], mT x446)) rfl ?_
                            refine w_gP4 K rfl (fun r447 hr447 => ?_)
                            refine w_go K 0 (c' := (183, [some (.ref 80), some (.int x10)], [.ref r447], mT x446)) rfl ?_
                            refine w_callL K (E := f_Act_beginCondition r447 x446) (g := fun (x448 : mS) => (none, mT x448)) (st_c (b := 1) (st := [.ref r447]) (args := []) (rest := []) rfl rfl rfl hr447) (m_Act_beginCondition (len := len) (xs := xs) r447 hr447 (d + 2) x446) (fun x448 => ?_)
                            refine w_go K 4 (c' := (223, [some (.ref 80), some (.int x10)], [], mT (sI x448 80 7 3))) rfl ?_
                            exact w_ret K rfl (hK _)
                          · refine w_go K 3 (c' := (200, [some (.ref 80), some (.int x10)], [.int 16, .int (gI s 80 3)], mT s)) rfl ?_
                            refine w_ine K rfl (fun _ => ?_) (fun _ => ?_)
                            · refine w_go K 3 (c' := (208, [some (.ref 80), some (.int x10)], [.int 1, .int (gI s 80 8)], mT s)) rfl ?_
                              refine w_ieq K rfl (fun _ => ?_) (fun _ => ?_)
                              · refine w_go K 2 (c' := (220, [some (.ref 80), some (.int x10)], [.int 1, .ref 80], mT s)) rfl ?_
                                refine w_callLT K (E := f_Parser_fail (1 : Int32) s) (g := fun (x449 : mS) => (none, mT x449)) rfl (m_Parser_fail (len := len) (xs := xs) (d + 2) (1 : Int32) s) (fun x449 => ?_)
                                refine w_go K 0 (c' := (223, [some (.ref 80), some (.int x10)], [], mT x449)) rfl ?_
                                exact w_ret K rfl (hK _)
                              · refine w_go K 1 (c' := (212, [some (.ref 80), some (.int x10)], [.ref 80], mT s)) rfl ?_
                                refine w_callL K (E := f_Parser_closeLine s) (g := fun (x450 : mS) => (none, mT x450)) rfl (m_Parser_closeLine (len := len) (xs := xs) (d + 0) s) (fun x450 => ?_)
                                refine w_go K 1 (c' := (223, [some (.ref 80), some (.int x10)], [], mT x450)) rfl ?_
                                exact w_ret K rfl (hK _)
                            · refine w_go K 2 (c' := (220, [some (.ref 80), some (.int x10)], [.int 1, .ref 80], mT s)) rfl ?_
                              refine w_callLT K (E := f_Parser_fail (1 : Int32) s) (g := fun (x451 : mS) => (none, mT x451)) rfl (m_Parser_fail (len := len) (xs := xs) (d + 2) (1 : Int32) s) (fun x451 => ?_)
                              refine w_go K 0 (c' := (223, [some (.ref 80), some (.int x10)], [], mT x451)) rfl ?_
                              exact w_ret K rfl (hK _)
                        · refine w_go K 3 (c' := (200, [some (.ref 80), some (.int x10)], [.int 16, .int (gI s 80 3)], mT s)) rfl ?_
                          refine w_ine K rfl (fun _ => ?_) (fun _ => ?_)
                          · refine w_go K 3 (c' := (208, [some (.ref 80), some (.int x10)], [.int 1, .int (gI s 80 8)], mT s)) rfl ?_
                            refine w_ieq K rfl (fun _ => ?_) (fun _ => ?_)
                            · refine w_go K 2 (c' := (220, [some (.ref 80), some (.int x10)], [.int 1, .ref 80], mT s)) rfl ?_
                              refine w_callLT K (E := f_Parser_fail (1 : Int32) s) (g := fun (x452 : mS) => (none, mT x452)) rfl (m_Parser_fail (len := len) (xs := xs) (d + 2) (1 : Int32) s) (fun x452 => ?_)
                              refine w_go K 0 (c' := (223, [some (.ref 80), some (.int x10)], [], mT x452)) rfl ?_
                              exact w_ret K rfl (hK _)
                            · refine w_go K 1 (c' := (212, [some (.ref 80), some (.int x10)], [.ref 80], mT s)) rfl ?_
                              refine w_callL K (E := f_Parser_closeLine s) (g := fun (x453 : mS) => (none, mT x453)) rfl (m_Parser_closeLine (len := len) (xs := xs) (d + 0) s) (fun x453 => ?_)
                              refine w_go K 1 (c' := (223, [some (.ref 80), some (.int x10)], [], mT x453)) rfl ?_
                              exact w_ret K rfl (hK _)
                          · refine w_go K 2 (c' := (220, [some (.ref 80), some (.int x10)], [.int 1, .ref 80], mT s)) rfl ?_
                            refine w_callLT K (E := f_Parser_fail (1 : Int32) s) (g := fun (x454 : mS) => (none, mT x454)) rfl (m_Parser_fail (len := len) (xs := xs) (d + 2) (1 : Int32) s) (fun x454 => ?_)
                            refine w_go K 0 (c' := (223, [some (.ref 80), some (.int x10)], [], mT x454)) rfl ?_
                            exact w_ret K rfl (hK _)
                      · refine w_go K 1 (c' := (152, [some (.ref 80), some (.int x10)], [.ref 80], mT s)) rfl ?_
                        refine w_callL K (E := f_Parser_closeBracket s) (g := fun (x455 : mS) => (none, mT x455)) rfl (m_Parser_closeBracket (len := len) (xs := xs) (d + 0) s) (fun x455 => ?_)
                        refine w_go K 1 (c' := (223, [some (.ref 80), some (.int x10)], [], mT x455)) rfl ?_
                        exact w_ret K rfl (hK _)
                    · refine w_go K 3 (c' := (164, [some (.ref 80), some (.int x10)], [.int 12, .int (gI s 80 3)], mT s)) rfl ?_
                      refine w_ine K rfl (fun _ => ?_) (fun _ => ?_)
                      · refine w_go K 2 (c' := (171, [some (.ref 80), some (.int x10)], [.int (gI s 80 8)], mT s)) rfl ?_
                        refine w_zne K rfl (fun _ => ?_) (fun _ => ?_)
                        · refine w_go K 2 (c' := (176, [some (.ref 80), some (.int x10)], [.int 1, .ref 80], mT s)) rfl ?_
                          refine w_callL K (E := f_Parser_unwind (1 : Int32) s) (g := fun (x456 : mS) => (none, mT x456)) rfl (m_Parser_unwind (len := len) (xs := xs) (d + 1) (1 : Int32) s) (fun x456 => ?_)
                          refine w_go K 1 (c' := (180, [some (.ref 80), some (.int x10)], [.ref 80], mT x456)) rfl ?_
                          refine w_gP4 K rfl (fun r457 hr457 => ?_)
                          refine w_go K 0 (c' := (183, [some (.ref 80), some (.int x10)], [.ref r457], mT x456)) rfl ?_
                          refine w_callL K (E := f_Act_beginCondition r457 x456) (g := fun (x458 : mS) => (none, mT x458)) (st_c (b := 1) (st := [.ref r457]) (args := []) (rest := []) rfl rfl rfl hr457) (m_Act_beginCondition (len := len) (xs := xs) r457 hr457 (d + 2) x456) (fun x458 => ?_)
                          refine w_go K 4 (c' := (223, [some (.ref 80), some (.int x10)], [], mT (sI x458 80 7 3))) rfl ?_
                          exact w_ret K rfl (hK _)
                        · refine w_go K 3 (c' := (200, [some (.ref 80), some (.int x10)], [.int 16, .int (gI s 80 3)], mT s)) rfl ?_
                          refine w_ine K rfl (fun _ => ?_) (fun _ => ?_)
                          · refine w_go K 3 (c' := (208, [some (.ref 80), some (.int x10)], [.int 1, .int (gI s 80 8)], mT s)) rfl ?_
                            refine w_ieq K rfl (fun _ => ?_) (fun _ => ?_)
                            · refine w_go K 2 (c' := (220, [some (.ref 80), some (.int x10)], [.int 1, .ref 80], mT s)) rfl ?_
                              refine w_callLT K (E := f_Parser_fail (1 : Int32) s) (g := fun (x459 : mS) => (none, mT x459)) rfl (m_Parser_fail (len := len) (xs := xs) (d + 2) (1 : Int32) s) (fun x459 => ?_)
                              refine w_go K 0 (c' := (223, [some (.ref 80), some (.int x10)], [], mT x459)) rfl ?_
                              exact w_ret K rfl (hK _)
                            · refine w_go K 1 (c' := (212, [some (.ref 80), some (.int x10)], [.ref 80], mT s)) rfl ?_
                              refine w_callL K (E := f_Parser_closeLine s) (g := fun (x460 : mS) => (none, mT x460)) rfl (m_Parser_closeLine (len := len) (xs := xs) (d + 0) s) (fun x460 => ?_)
                              refine w_go K 1 (c' := (223, [some (.ref 80), some (.int x10)], [], mT x460)) rfl ?_
                              exact w_ret K rfl (hK _)
                          · refine w_go K 2 (c' := (220, [some (.ref 80), some (.int x10)], [.int 1, .ref 80], mT s)) rfl ?_
                            refine w_callLT K (E := f_Parser_fail (1 : Int32) s) (g := fun (x461 : mS) => (none, mT x461)) rfl (m_Parser_fail (len := len) (xs := xs) (d + 2) (1 : Int32) s) (fun x461 => ?_)
                            refine w_go K 0 (c' := (223, [some (.ref 80), some (.int x10)], [], mT x461)) rfl ?_
                            exact w_ret K rfl (hK _)
                      · refine w_go K 3 (c' := (200, [some (.ref 80), some (.int x10)], [.int 16, .int (gI s 80 3)], mT s)) rfl ?_
                        refine w_ine K rfl (fun _ => ?_) (fun _ => ?_)
                        · refine w_go K 3 (c' := (208, [some (.ref 80), some (.int x10)], [.int 1, .int (gI s 80 8)], mT s)) rfl ?_
                          refine w_ieq K rfl (fun _ => ?_) (fun _ => ?_)
                          · refine w_go K 2 (c' := (220, [some (.ref 80), some (.int x10)], [.int 1, .ref 80], mT s)) rfl ?_
                            refine w_callLT K (E := f_Parser_fail (1 : Int32) s) (g := fun (x462 : mS) => (none, mT x462)) rfl (m_Parser_fail (len := len) (xs := xs) (d + 2) (1 : Int32) s) (fun x462 => ?_)
                            refine w_go K 0 (c' := (223, [some (.ref 80), some (.int x10)], [], mT x462)) rfl ?_
                            exact w_ret K rfl (hK _)
                          · refine w_go K 1 (c' := (212, [some (.ref 80), some (.int x10)], [.ref 80], mT s)) rfl ?_
                            refine w_callL K (E := f_Parser_closeLine s) (g := fun (x463 : mS) => (none, mT x463)) rfl (m_Parser_closeLine (len := len) (xs := xs) (d + 0) s) (fun x463 => ?_)
                            refine w_go K 1 (c' := (223, [some (.ref 80), some (.int x10)], [], mT x463)) rfl ?_
                            exact w_ret K rfl (hK _)
                        · refine w_go K 2 (c' := (220, [some (.ref 80), some (.int x10)], [.int 1, .ref 80], mT s)) rfl ?_
                          refine w_callLT K (E := f_Parser_fail (1 : Int32) s) (g := fun (x464 : mS) => (none, mT x464)) rfl (m_Parser_fail (len := len) (xs := xs) (d + 2) (1 : Int32) s) (fun x464 => ?_)
                          refine w_go K 0 (c' := (223, [some (.ref 80), some (.int x10)], [], mT x464)) rfl ?_
                          exact w_ret K rfl (hK _)
                  · refine w_go K 2 (c' := (132, [some (.ref 80), some (.int x10)], [.int 3, .ref 80], mT s)) rfl ?_
                    refine w_callL K (E := f_Parser_operate (3 : Int32) s) (g := fun (x465 : mS) => (none, mT x465)) rfl (m_Parser_operate (len := len) (xs := xs) (d + 0) (3 : Int32) s) (fun x465 => ?_)
                    refine w_go K 1 (c' := (223, [some (.ref 80), some (.int x10)], [], mT x465)) rfl ?_
                    exact w_ret K rfl (hK _)
                · refine w_go K 3 (c' := (144, [some (.ref 80), some (.int x10)], [.int 22, .int (gI s 80 3)], mT s)) rfl ?_
                  refine w_ine K rfl (fun _ => ?_) (fun _ => ?_)
                  · refine w_go K 1 (c' := (148, [some (.ref 80), some (.int x10)], [.int x10], mT s)) rfl ?_
                    refine w_zeq K rfl (fun _ => ?_) (fun _ => ?_)
                    · refine w_go K 3 (c' := (164, [some (.ref 80), some (.int x10)], [.int 12, .int (gI s 80 3)], mT s)) rfl ?_
                      refine w_ine K rfl (fun _ => ?_) (fun _ => ?_)
                      · refine w_go K 2 (c' := (171, [some (.ref 80), some (.int x10)], [.int (gI s 80 8)], mT s)) rfl ?_
                        refine w_zne K rfl (fun _ => ?_) (fun _ => ?_)
                        · refine w_go K 2 (c' := (176, [some (.ref 80), some (.int x10)], [.int 1, .ref 80], mT s)) rfl ?_
                          refine w_callL K (E := f_Parser_unwind (1 : Int32) s) (g := fun (x466 : mS) => (none, mT x466)) rfl (m_Parser_unwind (len := len) (xs := xs) (d + 1) (1 : Int32) s) (fun x466 => ?_)
                          refine w_go K 1 (c' := (180, [some (.ref 80), some (.int x10)], [.ref 80], mT x466)) rfl ?_
                          refine w_gP4 K rfl (fun r467 hr467 => ?_)
                          refine w_go K 0 (c' := (183, [some (.ref 80), some (.int x10)], [.ref r467], mT x466)) rfl ?_
                          refine w_callL K (E := f_Act_beginCondition r467 x466) (g := fun (x468 : mS) => (none, mT x468)) (st_c (b := 1) (st := [.ref r467]) (args := []) (rest := []) rfl rfl rfl hr467) (m_Act_beginCondition (len := len) (xs := xs) r467 hr467 (d + 2) x466) (fun x468 => ?_)
                          refine w_go K 4 (c' := (223, [some (.ref 80), some (.int x10)], [], mT (sI x468 80 7 3))) rfl ?_
                          exact w_ret K rfl (hK _)
                        · refine w_go K 3 (c' := (200, [some (.ref 80), some (.int x10)], [.int 16, .int (gI s 80 3)], mT s)) rfl ?_
                          refine w_ine K rfl (fun _ => ?_) (fun _ => ?_)
                          · refine w_go K 3 (c' := (208, [some (.ref 80), some (.int x10)], [.int 1, .int (gI s 80 8)], mT s)) rfl ?_
                            refine w_ieq K rfl (fun _ => ?_) (fun _ => ?_)
                            · refine w_go K 2 (c' := (220, [some (.ref 80), some (.int x10)], [.int 1, .ref 80], mT s)) rfl ?_
                              refine w_callLT K (E := f_Parser_fail (1 : Int32) s) (g := fun (x469 : mS) => (none, mT x469)) rfl (m_Parser_fail (len := len) (xs := xs) (d + 2) (1 : Int32) s) (fun x469 => ?_)
                              refine w_go K 0 (c' := (223, [some (.ref 80), some (.int x10)], [], mT x469)) rfl ?_
                              exact w_ret K rfl (hK _)
                            · refine w_go K 1 (c' := (212, [some (.ref 80), some (.int x10)], [.ref 80], mT s)) rfl ?_
                              refine w_callL K (E := f_Parser_closeLine s) (g := fun (x470 : mS) => (none, mT x470)) rfl (m_Parser_closeLine (len := len) (xs := xs) (d + 0) s) (fun x470 => ?_)
                              refine w_go K 1 (c' := (223, [some (.ref 80), some (.int x10)], [], mT x470)) rfl ?_
                              exact w_ret K rfl (hK _)
                          · refine w_go K 2 (c' := (220, [some (.ref 80), some (.int x10)], [.int 1, .ref 80], mT s)) rfl ?_
                            refine w_callLT K (E := f_Parser_fail (1 : Int32) s) (g := fun (x471 : mS) => (none, mT x471)) rfl (m_Parser_fail (len := len) (xs := xs) (d + 2) (1 : Int32) s) (fun x471 => ?_)
                            refine w_go K 0 (c' := (223, [some (.ref 80), some (.int x10)], [], mT x471)) rfl ?_
                            exact w_ret K rfl (hK _)
                      · refine w_go K 3 (c' := (200, [some (.ref 80), some (.int x10)], [.int 16, .int (gI s 80 3)], mT s)) rfl ?_
                        refine w_ine K rfl (fun _ => ?_) (fun _ => ?_)
                        · refine w_go K 3 (c' := (208, [some (.ref 80), some (.int x10)], [.int 1, .int (gI s 80 8)], mT s)) rfl ?_
                          refine w_ieq K rfl (fun _ => ?_) (fun _ => ?_)
                          · refine w_go K 2 (c' := (220, [some (.ref 80), some (.int x10)], [.int 1, .ref 80], mT s)) rfl ?_
                            refine w_callLT K (E := f_Parser_fail (1 : Int32) s) (g := fun (x472 : mS) => (none, mT x472)) rfl (m_Parser_fail (len := len) (xs := xs) (d + 2) (1 : Int32) s) (fun x472 => ?_)
                            refine w_go K 0 (c' := (223, [some (.ref 80), some (.int x10)], [], mT x472)) rfl ?_
                            exact w_ret K rfl (hK _)
                          · refine w_go K 1 (c' := (212, [some (.ref 80), some (.int x10)], [.ref 80], mT s)) rfl ?_
                            refine w_callL K (E := f_Parser_closeLine s) (g := fun (x473 : mS) => (none, mT x473)) rfl (m_Parser_closeLine (len := len) (xs := xs) (d + 0) s) (fun x473 => ?_)
                            refine w_go K 1 (c' := (223, [some (.ref 80), some (.int x10)], [], mT x473)) rfl ?_
                            exact w_ret K rfl (hK _)
                        · refine w_go K 2 (c' := (220, [some (.ref 80), some (.int x10)], [.int 1, .ref 80], mT s)) rfl ?_
                          refine w_callLT K (E := f_Parser_fail (1 : Int32) s) (g := fun (x474 : mS) => (none, mT x474)) rfl (m_Parser_fail (len := len) (xs := xs) (d + 2) (1 : Int32) s) (fun x474 => ?_)
                          refine w_go K 0 (c' := (223, [some (.ref 80), some (.int x10)], [], mT x474)) rfl ?_
                          exact w_ret K rfl (hK _)
                    · refine w_go K 1 (c' := (152, [some (.ref 80), some (.int x10)], [.ref 80], mT s)) rfl ?_
                      refine w_callL K (E := f_Parser_closeBracket s) (g := fun (x475 : mS) => (none, mT x475)) rfl (m_Parser_closeBracket (len := len) (xs := xs) (d + 0) s) (fun x475 => ?_)
                      refine w_go K 1 (c' := (223, [some (.ref 80), some (.int x10)], [], mT x475)) rfl ?_
                      exact w_ret K rfl (hK _)
                  · refine w_go K 3 (c' := (164, [some (.ref 80), some (.int x10)], [.int 12, .int (gI s 80 3)], mT s)) rfl ?_
                    refine w_ine K rfl (fun _ => ?_) (fun _ => ?_)
                    · refine w_go K 2 (c' := (171, [some (.ref 80), some (.int x10)], [.int (gI s 80 8)], mT s)) rfl ?_
                      refine w_zne K rfl (fun _ => ?_) (fun _ => ?_)
                      · refine w_go K 2 (c' := (176, [some (.ref 80), some (.int x10)], [.int 1, .ref 80], mT s)) rfl ?_
                        refine w_callL K (E := f_Parser_unwind (1 : Int32) s) (g := fun (x476 : mS) => (none, mT x476)) rfl (m_Parser_unwind (len := len) (xs := xs) (d + 1) (1 : Int32) s) (fun x476 => ?_)
                        refine w_go K 1 (c' := (180, [some (.ref 80), some (.int x10)], [.ref 80], mT x476)) rfl ?_
                        refine w_gP4 K rfl (fun r477 hr477 => ?_)
                        refine w_go K 0 (c' := (183, [some (.ref 80), some (.int x10)], [.ref r477], mT x476)) rfl ?_
                        refine w_callL K (E := f_Act_beginCondition r477 x476) (g := fun (x478 : mS) => (none, mT x478)) (st_c (b := 1) (st := [.ref r477]) (args := []) (rest := []) rfl rfl rfl hr477) (m_Act_beginCondition (len := len) (xs := xs) r477 hr477 (d + 2) x476) (fun x478 => ?_)
                        refine w_go K 4 (c' := (223, [some (.ref 80), some (.int x10)], [], mT (sI x478 80 7 3))) rfl ?_
                        exact w_ret K rfl (hK _)
                      · refine w_go K 3 (c' := (200, [some (.ref 80), some (.int x10)], [.int 16, .int (gI s 80 3)], mT s)) rfl ?_
                        refine w_ine K rfl (fun _ => ?_) (fun _ => ?_)
                        · refine w_go K 3 (c' := (208, [some (.ref 80), some (.int x10)], [.int 1, .int (gI s 80 8)], mT s)) rfl ?_
                          refine w_ieq K rfl (fun _ => ?_) (fun _ => ?_)
                          · refine w_go K 2 (c' := (220, [some (.ref 80), some (.int x10)], [.int 1, .ref 80], mT s)) rfl ?_
                            refine w_callLT K (E := f_Parser_fail (1 : Int32) s) (g := fun (x479 : mS) => (none, mT x479)) rfl (m_Parser_fail (len := len) (xs := xs) (d + 2) (1 : Int32) s) (fun x479 => ?_)
                            refine w_go K 0 (c' := (223, [some (.ref 80), some (.int x10)], [], mT x479)) rfl ?_
                            exact w_ret K rfl (hK _)
                          · refine w_go K 1 (c' := (212, [some (.ref 80), some (.int x10)], [.ref 80], mT s)) rfl ?_
                            refine w_callL K (E := f_Parser_closeLine s) (g := fun (x480 : mS) => (none, mT x480)) rfl (m_Parser_closeLine (len := len) (xs := xs) (d + 0) s) (fun x480 => ?_)
                            refine w_go K 1 (c' := (223, [some (.ref 80), some (.int x10)], [], mT x480)) rfl ?_
                            exact w_ret K rfl (hK _)
                        · refine w_go K 2 (c' := (220, [some (.ref 80), some (.int x10)], [.int 1, .ref 80], mT s)) rfl ?_
                          refine w_callLT K (E := f_Parser_fail (1 : Int32) s) (g := fun (x481 : mS) => (none, mT x481)) rfl (m_Parser_fail (len := len) (xs := xs) (d + 2) (1 : Int32) s) (fun x481 => ?_)
                          refine w_go K 0 (c' := (223, [some (.ref 80), some (.int x10)], [], mT x481)) rfl ?_
                          exact w_ret K rfl (hK _)
                    · refine w_go K 3 (c' := (200, [some (.ref 80), some (.int x10)], [.int 16, .int (gI s 80 3)], mT s)) rfl ?_
                      refine w_ine K rfl (fun _ => ?_) (fun _ => ?_)
                      · refine w_go K 3 (c' := (208, [some (.ref 80), some (.int x10)], [.int 1, .int (gI s 80 8)], mT s)) rfl ?_
                        refine w_ieq K rfl (fun _ => ?_) (fun _ => ?_)
                        · refine w_go K 2 (c' := (220, [some (.ref 80), some (.int x10)], [.int 1, .ref 80], mT s)) rfl ?_
                          refine w_callLT K (E := f_Parser_fail (1 : Int32) s) (g := fun (x482 : mS) => (none, mT x482)) rfl (m_Parser_fail (len := len) (xs := xs) (d + 2) (1 : Int32) s) (fun x482 => ?_)
                          refine w_go K 0 (c' := (223, [some (.ref 80), some (.int x10)], [], mT x482)) rfl ?_
                          exact w_ret K rfl (hK _)
                        · refine w_go K 1 (c' := (212, [some (.ref 80), some (.int x10)], [.ref 80], mT s)) rfl ?_
                          refine w_callL K (E := f_Parser_closeLine s) (g := fun (x483 : mS) => (none, mT x483)) rfl (m_Parser_closeLine (len := len) (xs := xs) (d + 0) s) (fun x483 => ?_)
                          refine w_go K 1 (c' := (223, [some (.ref 80), some (.int x10)], [], mT x483)) rfl ?_
                          exact w_ret K rfl (hK _)
                      · refine w_go K 2 (c' := (220, [some (.ref 80), some (.int x10)], [.int 1, .ref 80], mT s)) rfl ?_
                        refine w_callLT K (E := f_Parser_fail (1 : Int32) s) (g := fun (x484 : mS) => (none, mT x484)) rfl (m_Parser_fail (len := len) (xs := xs) (d + 2) (1 : Int32) s) (fun x484 => ?_)
                        refine w_go K 0 (c' := (223, [some (.ref 80), some (.int x10)], [], mT x484)) rfl ?_
                        exact w_ret K rfl (hK _)
            · refine w_go K 3 (c' := (92, [some (.ref 80), some (.int x10)], [.int 1, .int (gI s 80 8)], mT s)) rfl ?_
              refine w_ine K rfl (fun _ => ?_) (fun _ => ?_)
              · refine w_go K 2 (c' := (97, [some (.ref 80), some (.int x10)], [.int 1, .ref 80], mT s)) rfl ?_
                refine w_callL K (E := f_Parser_operate (1 : Int32) s) (g := fun (x485 : mS) => (none, mT x485)) rfl (m_Parser_operate (len := len) (xs := xs) (d + 0) (1 : Int32) s) (fun x485 => ?_)
                refine w_go K 4 (c' := (223, [some (.ref 80), some (.int x10)], [], mT (sI x485 80 8 2))) rfl ?_
                exact w_ret K rfl (hK _)
              · refine w_go K 3 (c' := (114, [some (.ref 80), some (.int x10)], [.int 14, .int (gI s 80 3)], mT s)) rfl ?_
                refine w_ieq K rfl (fun _ => ?_) (fun _ => ?_)
                · refine w_go K 1 (c' := (127, [some (.ref 80), some (.int x10)], [.int x10], mT s)) rfl ?_
                  refine w_zeq K rfl (fun _ => ?_) (fun _ => ?_)
                  · refine w_go K 3 (c' := (144, [some (.ref 80), some (.int x10)], [.int 22, .int (gI s 80 3)], mT s)) rfl ?_
                    refine w_ine K rfl (fun _ => ?_) (fun _ => ?_)
                    · refine w_go K 1 (c' := (148, [some (.ref 80), some (.int x10)], [.int x10], mT s)) rfl ?_
                      refine w_zeq K rfl (fun _ => ?_) (fun _ => ?_)
                      · refine w_go K 3 (c' := (164, [some (.ref 80), some (.int x10)], [.int 12, .int (gI s 80 3)], mT s)) rfl ?_
                        refine w_ine K rfl (fun _ => ?_) (fun _ => ?_)
                        · refine w_go K 2 (c' := (171, [some (.ref 80), some (.int x10)], [.int (gI s 80 8)], mT s)) rfl ?_
                          refine w_zne K rfl (fun _ => ?_) (fun _ => ?_)
                          · refine w_go K 2 (c' := (176, [some (.ref 80), some (.int x10)], [.int 1, .ref 80], mT s)) rfl ?_
                            refine w_callL K (E := f_Parser_unwind (1 : Int32) s) (g := fun (x486 : mS) => (none, mT x486)) rfl (m_Parser_unwind (len := len) (xs := xs) (d + 1) (1 : Int32) s) (fun x486 => ?_)
                            refine w_go K 1 (c' := (180, [some (.ref 80), some (.int x10)], [.ref 80], mT x486)) rfl ?_
                            refine w_gP4 K rfl (fun r487 hr487 => ?_)
                            refine w_go K 0 (c' := (183, [some (.ref 80), some (.int x10)], [.ref r487], mT x486)) rfl ?_
                            refine w_callL K (E := f_Act_beginCondition r487 x486) (g := fun (x488 : mS) => (none, mT x488)) (st_c (b := 1) (st := [.ref r487]) (args := []) (rest := []) rfl rfl rfl hr487) (m_Act_beginCondition (len := len) (xs := xs) r487 hr487 (d + 2) x486) (fun x488 => ?_)
                            refine w_go K 4 (c' := (223, [some (.ref 80), some (.int x10)], [], mT (sI x488 80 7 3))) rfl ?_
                            exact w_ret K rfl (hK _)
                          · refine w_go K 3 (c' := (200, [some (.ref 80), some (.int x10)], [.int 16, .int (gI s 80 3)], mT s)) rfl ?_
                            refine w_ine K rfl (fun _ => ?_) (fun _ => ?_)
                            · refine w_go K 3 (c' := (208, [some (.ref 80), some (.int x10)], [.int 1, .int (gI s 80 8)], mT s)) rfl ?_
                              refine w_ieq K rfl (fun _ => ?_) (fun _ => ?_)
                              · refine w_go K 2 (c' := (220, [some (.ref 80), some (.int x10)], [.int 1, .ref 80], mT s)) rfl ?_
                                refine w_callLT K (E := f_Parser_fail (1 : Int32) s) (g := fun (x489 : mS) => (none, mT x489)) rfl (m_Parser_fail (len := len) (xs := xs) (d + 2) (1 : Int32) s) (fun x489 => ?_)
                                refine w_go K 0 (c' := (223, [some (.ref 80), some (.int x10)], [], mT x489)) rfl ?_
                                exact w_ret K rfl (hK _)
                              · refine w_go K 1 (c' := (212, [some (.ref 80), some (.int x10)], [.ref 80], mT s)) rfl ?_
                                refine w_callL K (E := f_Parser_closeLine s) (g := fun (x490 : mS) => (none, mT x490)) rfl (m_Parser_closeLine (len := len) (xs := xs) (d + 0) s) (fun x490 => ?_)
                                refine w_go K 1 (c' := (223, [some (.ref 80), some (.int x10)], [], mT x490)) rfl ?_
                                exact w_ret K rfl (hK _)
                            · refine w_go K 2 (c' := (220, [some (.ref 80), some (.int x10)], [.int 1, .ref 80], mT s)) rfl ?_
                              refine w_callLT K (E := f_Parser_fail (1 : Int32) s) (g := fun (x491 : mS) => (none, mT x491)) rfl (m_Parser_fail (len := len) (xs := xs) (d + 2) (1 : Int32) s) (fun x491 => ?_)
                              refine w_go K 0 (c' := (223, [some (.ref 80), some (.int x10)], [], mT x491)) rfl ?_
                              exact w_ret K rfl (hK _)
                        · refine w_go K 3 (c' := (200, [some (.ref 80), some (.int x10)], [.int 16, .int (gI s 80 3)], mT s)) rfl ?_
                          refine w_ine K rfl (fun _ => ?_) (fun _ => ?_)
                          · refine w_go K 3 (c' := (208, [some (.ref 80), some (.int x10)], [.int 1, .int (gI s 80 8)], mT s)) rfl ?_
                            refine w_ieq K rfl (fun _ => ?_) (fun _ => ?_)
                            · refine w_go K 2 (c' := (220, [some (.ref 80), some (.int x10)], [.int 1, .ref 80], mT s)) rfl ?_
                              refine w_callLT K (E := f_Parser_fail (1 : Int32) s) (g := fun (x492 : mS) => (none, mT x492)) rfl (m_Parser_fail (len := len) (xs := xs) (d + 2) (1 : Int32) s) (fun x492 => ?_)
                              refine w_go K 0 (c' := (223, [some (.ref 80), some (.int x10)], [], mT x492)) rfl ?_
                              exact w_ret K rfl (hK _)
                            · refine w_go K 1 (c' := (212, [some (.ref 80), some (.int x10)], [.ref 80], mT s)) rfl ?_
                              refine w_callL K (E := f_Parser_closeLine s) (g := fun (x493 : mS) => (none, mT x493)) rfl (m_Parser_closeLine (len := len) (xs := xs) (d + 0) s) (fun x493 => ?_)
                              refine w_go K 1 (c' := (223, [some (.ref 80), some (.int x10)], [], mT x493)) rfl ?_
                              exact w_ret K rfl (hK _)
                          · refine w_go K 2 (c' := (220, [some (.ref 80), some (.int x10)], [.int 1, .ref 80], mT s)) rfl ?_
                            refine w_callLT K (E := f_Parser_fail (1 : Int32) s) (g := fun (x494 : mS) => (none, mT x494)) rfl (m_Parser_fail (len := len) (xs := xs) (d + 2) (1 : Int32) s) (fun x494 => ?_)
                            refine w_go K 0 (c' := (223, [some (.ref 80), some (.int x10)], [], mT x494)) rfl ?_
                            exact w_ret K rfl (hK _)
                      · refine w_go K 1 (c' := (152, [some (.ref 80), some (.int x10)], [.ref 80], mT s)) rfl ?_
                        refine w_callL K (E := f_Parser_closeBracket s) (g := fun (x495 : mS) => (none, mT x495)) rfl (m_Parser_closeBracket (len := len) (xs := xs) (d + 0) s) (fun x495 => ?_)
                        refine w_go K 1 (c' := (223, [some (.ref 80), some (.int x10)], [], mT x495)) rfl ?_
                        exact w_ret K rfl (hK _)
                    · refine w_go K 3 (c' := (164, [some (.ref 80), some (.int x10)], [.int 12, .int (gI s 80 3)], mT s)) rfl ?_
                      refine w_ine K rfl (fun _ => ?_) (fun _ => ?_)
                      · refine w_go K 2 (c' := (171, [some (.ref 80), some (.int x10)], [.int (gI s 80 8)], mT s)) rfl ?_
                        refine w_zne K rfl (fun _ => ?_) (fun _ => ?_)
                        · refine w_go K 2 (c' := (176, [some (.ref 80), some (.int x10)], [.int 1, .ref 80], mT s)) rfl ?_
                          refine w_callL K (E := f_Parser_unwind (1 : Int32) s) (g := fun (x496 : mS) => (none, mT x496)) rfl (m_Parser_unwind (len := len) (xs := xs) (d + 1) (1 : Int32) s) (fun x496 => ?_)
                          refine w_go K 1 (c' := (180, [some (.ref 80), some (.int x10)], [.ref 80], mT x496)) rfl ?_
                          refine w_gP4 K rfl (fun r497 hr497 => ?_)
                          refine w_go K 0 (c' := (183, [some (.ref 80), some (.int x10)], [.ref r497], mT x496)) rfl ?_
                          refine w_callL K (E := f_Act_beginCondition r497 x496) (g := fun (x498 : mS) => (none, mT x498)) (st_c (b := 1) (st := [.ref r497]) (args := []) (rest := []) rfl rfl rfl hr497) (m_Act_beginCondition (len := len) (xs := xs) r497 hr497 (d + 2) x496) (fun x498 => ?_)
                          refine w_go K 4 (c' := (223, [some (.ref 80), some (.int x10)], [], mT (sI x498 80 7 3))) rfl ?_
                          exact w_ret K rfl (hK _)
                        · refine w_go K 3 (c' := (200, [some (.ref 80), some (.int x10)], [.int 16, .int (gI s 80 3)], mT s)) rfl ?_
                          refine w_ine K rfl (fun _ => ?_) (fun _ => ?_)
                          · refine w_go K 3 (c' := (208, [some (.ref 80), some (.int x10)], [.int 1, .int (gI s 80 8)], mT s)) rfl ?_
                            refine w_ieq K rfl (fun _ => ?_) (fun _ => ?_)
                            · refine w_go K 2 (c' := (220, [some (.ref 80), some (.int x10)], [.int 1, .ref 80], mT s)) rfl ?_
                              refine w_callLT K (E := f_Parser_fail (1 : Int32) s) (g := fun (x499 : mS) => (none, mT x499)) rfl (m_Parser_fail (len := len) (xs := xs) (d + 2) (1 : Int32) s) (fun x499 => ?_)
                              refine w_go K 0 (c' := (223, [some (.ref 80), some (.int x10)], [], mT x499)) rfl ?_
                              exact w_ret K rfl (hK _)
                            · refine w_go K 1 (c' := (212, [some (.ref 80), some (.int x10)], [.ref 80], mT s)) rfl ?_
                              refine w_callL K (E := f_Parser_closeLine s) (g := fun (x500 : mS) => (none, mT x500)) rfl (m_Parser_closeLine (len := len) (xs := xs) (d + 0) s) (fun x500 => ?_)
                              refine w_go K 1 (c' := (223, [some (.ref 80), some (.int x10)], [], mT x500)) rfl ?_
                              exact w_ret K rfl (hK _)
                          · refine w_go K 2 (c' := (220, [some (.ref 80), some (.int x10)], [.int 1, .ref 80], mT s)) rfl ?_
                            refine w_callLT K (E := f_Parser_fail (1 : Int32) s) (g := fun (x501 : mS) => (none, mT x501)) rfl (m_Parser_fail (len := len) (xs := xs) (d + 2) (1 : Int32) s) (fun x501 => ?_)
                            refine w_go K 0 (c' := (223, [some (.ref 80), some (.int x10)], [], mT x501)) rfl ?_
                            exact w_ret K rfl (hK _)
                      · refine w_go K 3 (c' := (200, [some (.ref 80), some (.int x10)], [.int 16, .int (gI s 80 3)], mT s)) rfl ?_
                        refine w_ine K rfl (fun _ => ?_) (fun _ => ?_)
                        · refine w_go K 3 (c' := (208, [some (.ref 80), some (.int x10)], [.int 1, .int (gI s 80 8)], mT s)) rfl ?_
                          refine w_ieq K rfl (fun _ => ?_) (fun _ => ?_)
                          · refine w_go K 2 (c' := (220, [some (.ref 80), some (.int x10)], [.int 1, .ref 80], mT s)) rfl ?_
                            refine w_callLT K (E := f_Parser_fail (1 : Int32) s) (g := fun (x502 : mS) => (none, mT x502)) rfl (m_Parser_fail (len := len) (xs := xs) (d + 2) (1 : Int32) s) (fun x502 => ?_)
                            refine w_go K 0 (c' := (223, [some (.ref 80), some (.int x10)], [], mT x502)) rfl ?_
                            exact w_ret K rfl (hK _)
                          · refine w_go K 1 (c' := (212, [some (.ref 80), some (.int x10)], [.ref 80], mT s)) rfl ?_
                            refine w_callL K (E := f_Parser_closeLine s) (g := fun (x503 : mS) => (none, mT x503)) rfl (m_Parser_closeLine (len := len) (xs := xs) (d + 0) s) (fun x503 => ?_)
                            refine w_go K 1 (c' := (223, [some (.ref 80), some (.int x10)], [], mT x503)) rfl ?_
                            exact w_ret K rfl (hK _)
                        · refine w_go K 2 (c' := (220, [some (.ref 80), some (.int x10)], [.int 1, .ref 80], mT s)) rfl ?_
                          refine w_callLT K (E := f_Parser_fail (1 : Int32) s) (g := fun (x504 : mS) => (none, mT x504)) rfl (m_Parser_fail (len := len) (xs := xs) (d + 2) (1 : Int32) s) (fun x504 => ?_)
                          refine w_go K 0 (c' := (223, [some (.ref 80), some (.int x10)], [], mT x504)) rfl ?_
                          exact w_ret K rfl (hK _)
                  · refine w_go K 2 (c' := (132, [some (.ref 80), some (.int x10)], [.int 3, .ref 80], mT s)) rfl ?_
                    refine w_callL K (E := f_Parser_operate (3 : Int32) s) (g := fun (x505 : mS) => (none, mT x505)) rfl (m_Parser_operate (len := len) (xs := xs) (d + 0) (3 : Int32) s) (fun x505 => ?_)
                    refine w_go K 1 (c' := (223, [some (.ref 80), some (.int x10)], [], mT x505)) rfl ?_
                    exact w_ret K rfl (hK _)
                · refine w_go K 3 (c' := (123, [some (.ref 80), some (.int x10)], [.int 13, .int (gI s 80 3)], mT s)) rfl ?_
                  refine w_ine K rfl (fun _ => ?_) (fun _ => ?_)
                  · refine w_go K 1 (c' := (127, [some (.ref 80), some (.int x10)], [.int x10], mT s)) rfl ?_
                    refine w_zeq K rfl (fun _ => ?_) (fun _ => ?_)
                    · refine w_go K 3 (c' := (144, [some (.ref 80), some (.int x10)], [.int 22, .int (gI s 80 3)], mT s)) rfl ?_
                      refine w_ine K rfl (fun _ => ?_) (fun _ => ?_)
                      · refine w_go K 1 (c' := (148, [some (.ref 80), some (.int x10)], [.int x10], mT s)) rfl ?_
                        refine w_zeq K rfl (fun _ => ?_) (fun _ => ?_)
                        · refine w_go K 3 (c' := (164, [some (.ref 80), some (.int x10)], [.int 12, .int (gI s 80 3)], mT s)) rfl ?_
                          refine w_ine K rfl (fun _ => ?_) (fun _ => ?_)
                          · refine w_go K 2 (c' := (171, [some (.ref 80), some (.int x10)], [.int (gI s 80 8)], mT s)) rfl ?_
                            refine w_zne K rfl (fun _ => ?_) (fun _ => ?_)
                            · refine w_go K 2 (c' := (176, [some (.ref 80), some (.int x10)], [.int 1, .ref 80], mT s)) rfl ?_
                              refine w_callL K (E := f_Parser_unwind (1 : Int32) s) (g := fun (x506 : mS) => (none, mT x506)) rfl (m_Parser_unwind (len := len) (xs := xs) (d + 1) (1 : Int32) s) (fun x506 => ?_)
                              refine w_go K 1 (c' := (180, [some (.ref 80), some (.int x10)], [.ref 80], mT x506)) rfl ?_
                              refine w_gP4 K rfl (fun r507 hr507 => ?_)
                              refine w_go K 0 (c' := (183, [some (.ref 80), some (.int x10)], [.ref r507], mT x506)) rfl ?_
                              refine w_callL K (E := f_Act_beginCondition r507 x506) (g := fun (x508 : mS) => (none, mT x508)) (st_c (b := 1) (st := [.ref r507]) (args := []) (rest := []) rfl rfl rfl hr507) (m_Act_beginCondition (len := len) (xs := xs) r507 hr507 (d + 2) x506) (fun x508 => ?_)
                              refine w_go K 4 (c' := (223, [some (.ref 80), some (.int x10)], [], mT (sI x508 80 7 3))) rfl ?_
                              exact w_ret K rfl (hK _)
                            · refine w_go K 3 (c' := (200, [some (.ref 80), some (.int x10)], [.int 16, .int (gI s 80 3)], mT s)) rfl ?_
                              refine w_ine K rfl (fun _ => ?_) (fun _ => ?_)
                              · refine w_go K 3 (c' := (208, [some (.ref 80), some (.int x10)], [.int 1, .int (gI s 80 8)], mT s)) rfl ?_
                                refine w_ieq K rfl (fun _ => ?_) (fun _ => ?_)
                                · refine w_go K 2 (c' := (220, [some (.ref 80), some (.int x10)], [.int 1, .ref 80], mT s)) rfl ?_
                                  refine w_callLT K (E := f_Parser_fail (1 : Int32) s) (g := fun (x509 : mS) => (none, mT x509)) rfl (m_Parser_fail (len := len) (xs := xs) (d + 2) (1 : Int32) s) (fun x509 => ?_)
                                  refine w_go K 0 (c' := (223, [some (.ref 80), some (.int x10)], [], mT x509)) rfl ?_
                                  exact w_ret K rfl (hK _)
                                · refine w_go K 1 (c' := (212, [some (.ref 80), some (.int x10)], [.ref 80], mT s)) rfl ?_
                                  refine w_callL K (E := f_Parser_closeLine s) (g := fun (x510 : mS) => (none, mT x510)) rfl (m_Parser_closeLine (len := len) (xs := xs) (d + 0) s) (fun x510 => ?_)
                                  refine w_go K 1 (c' := (223, [some (.ref 80), some (.int x10)], [], mT x510)) rfl ?_
                                  exact w_ret K rfl (hK _)
                              · refine w_go K 2 (c' := (220, [some (.ref 80), some (.int x10)], [.int 1, .ref 80], mT s)) rfl ?_
                                refine w_callLT K (E := f_Parser_fail (1 : Int32) s) (g := fun (x511 : mS) => (none, mT x511)) rfl (m_Parser_fail (len := len) (xs := xs) (d + 2) (1 : Int32) s) (fun x511 => ?_)
                                refine w_go K 0 (c' := (223, [some (.ref 80), some (.int x10)], [], mT x511)) rfl ?_
                                exact w_ret K rfl (hK _)
                          · refine w_go K 3 (c' := (200, [some (.ref 80), some (.int x10)], [.int 16, .int (gI s 80 3)], mT s)) rfl ?_
                            refine w_ine K rfl (fun _ => ?_) (fun _ => ?_)
                            · refine w_go K 3 (c' := (208, [some (.ref 80), some (.int x10)], [.int 1, .int (gI s 80 8)], mT s)) rfl ?_
                              refine w_ieq K rfl (fun _ => ?_) (fun _ => ?_)
                              · refine w_go K 2 (c' := (220, [some (.ref 80), some (.int x10)], [.int 1, .ref 80], mT s)) rfl ?_
                                refine w_callLT K (E := f_Parser_fail (1 : Int32) s) (g := fun (x512 : mS) => (none, mT x512)) rfl (m_Parser_fail (len := len) (xs := xs) (d + 2) (1 : Int32) s) (fun x512 => ?_)
                                refine w_go K 0 (c' := (223, [some (.ref 80), some (.int x10)], [], mT x512)) rfl ?_
                                exact w_ret K rfl (hK _)
                              · refine w_go K 1 (c' := (212, [some (.ref 80), some (.int x10)], [.ref 80], mT s)) rfl ?_
                                refine w_callL K (E := f_Parser_closeLine s) (g := fun (x513 : mS) => (none, mT x513)) rfl (m_Parser_closeLine (len := len) (xs := xs) (d + 0) s) (fun x513 => ?_)
                                refine w_go K 1 (c' := (223, [some (.ref 80), some (.int x10)], [], mT x513)) rfl ?_
                                exact w_ret K rfl (hK _)
                            · refine w_go K 2 (c' := (220, [some (.ref 80), some (.int x10)], [.int 1, .ref 80], mT s)) rfl ?_
                              refine w_callLT K (E := f_Parser_fail (1 : Int32) s) (g := fun (x514 : mS) => (none, mT x514)) rfl (m_Parser_fail (len := len) (xs := xs) (d + 2) (1 : Int32) s) (fun x514 => ?_)
                              refine w_go K 0 (c' := (223, [some (.ref 80), some (.int x10)], [], mT x514)) rfl ?_
                              exact w_ret K rfl (hK _)
                        · refine w_go K 1 (c' := (152, [some (.ref 80), some (.int x10)], [.ref 80], mT s)) rfl ?_
                          refine w_callL K (E := f_Parser_closeBracket s) (g := fun (x515 : mS) => (none, mT x515)) rfl (m_Parser_closeBracket (len := len) (xs := xs) (d + 0) s) (fun x515 => ?_)
                          refine w_go K 1 (c' := (223, [some (.ref 80), some (.int x10)], [], mT x515)) rfl ?_
                          exact w_ret K rfl (hK _)
                      · refine w_go K 3 (c' := (164, [some (.ref 80), some (.int x10)], [.int 12, .int (gI s 80 3)], mT s)) rfl ?_
                        refine w_ine K rfl (fun _ => ?_) (fun _ => ?_)
                        · refine w_go K 2 (c' := (171, [some (.ref 80), some (.int x10)], [.int (gI s 80 8)], mT s)) rfl ?_
                          refine w_zne K rfl (fun _ => ?_) (fun _ => ?_)
                          · refine w_go K 2 (c' := (176, [some (.ref 80), some (.int x10)], [.int 1, .ref 80], mT s)) rfl ?_
                            refine w_callL K (E := f_Parser_unwind (1 : Int32) s) (g := fun (x516 : mS) => (none, mT x516)) rfl (m_Parser_unwind (len := len) (xs := xs) (d + 1) (1 : Int32) s) (fun x516 => ?_)
                            refine w_go K 1 (c' := (180, [some (.ref 80), some (.int x10)], [.ref 80], mT x516)) rfl ?_
                            refine w_gP4 K rfl (fun r517 hr517 => ?_)
                            refine w_go K 0 (c' := (183, [some (.ref 80), some (.int x10)], [.ref r517], mT x516)) rfl ?_
                            refine w_callL K (E := f_Act_beginCondition r517 x516) (g := fun (x518 : mS) => (none, mT x518)) (st_c (b := 1) (st := [.ref r517]) (args := []) (rest := []) rfl rfl rfl hr517) (m_Act_beginCondition (len := len) (xs := xs) r517 hr517 (d + 2) x516) (fun x518 => ?_)
                            refine w_go K 4 (c' := (223, [some (.ref 80), some (.int x10)], [], mT (sI x518 80 7 3))) rfl ?_
                            exact w_ret K rfl (hK _)
                          · refine w_go K 3 (c' := (200, [some (.ref 80), some (.int x10)], [.int 16, .int (gI s 80 3)], mT s)) rfl ?_
                            refine w_ine K rfl (fun _ => ?_) (fun _ => ?_)
                            · refine w_go K 3 (c' := (208, [some (.ref 80), some (.int x10)], [.int 1, .int (gI s 80 8)], mT s)) rfl ?_
                              refine w_ieq K rfl (fun _ => ?_) (fun _ => ?_)
                              · refine w_go K 2 (c' := (220, [some (.ref 80), some (.int x10)], [.int 1, .ref 80], mT s)) rfl ?_
                                refine w_callLT K (E := f_Parser_fail (1 : Int32) s) (g := fun (x519 : mS) => (none, mT x519)) rfl (m_Parser_fail (len := len) (xs := xs) (d + 2) (1 : Int32) s) (fun x519 => ?_)
                                refine w_go K 0 (c' := (223, [some (.ref 80), some (.int x10)], [], mT x519)) rfl ?_
                                exact w_ret K rfl (hK _)
                              · refine w_go K 1 (c' := (212, [some (.ref 80), some (.int x10)], [.ref 80], mT s)) rfl ?_
                                refine w_callL K (E := f_Parser_closeLine s) (g := fun (x520 : mS) => (none, mT x520)) rfl (m_Parser_closeLine (len := len) (xs := xs) (d + 0) s) (fun x520 => ?_)
                                refine w_go K 1 (c' := (223, [some (.ref 80), some (.int x10)], [], mT x520)) rfl ?_
                                exact w_ret K rfl (hK _)
                            · refine w_go K 2 (c' := (220, [some (.ref 80), some (.int x10)], [.int 1, .ref 80], mT s)) rfl ?_
                              refine w_callLT K (E := f_Parser_fail (1 : Int32) s) (g := fun (x521 : mS) => (none, mT x521)) rfl (m_Parser_fail (len := len) (xs := xs) (d + 2) (1 : Int32) s) (fun x521 => ?_)
                              refine w_go K 0 (c' := (223, [some (.ref 80), some (.int x10)], [], mT x521)) rfl ?_
                              exact w_ret K rfl (hK _)
                        · refine w_go K 3 (c' := (200, [some (.ref 80), some (.int x10)], [.int 16, .int (gI s 80 3)], mT s)) rfl ?_
                          refine w_ine K rfl (fun _ => ?_) (fun _ => ?_)
                          · refine w_go K 3 (c' := (208, [some (.ref 80), some (.int x10)], [.int 1, .int (gI s 80 8)], mT s)) rfl ?_
                            refine w_ieq K rfl (fun _ => ?_) (fun _ => ?_)
                            · refine w_go K 2 (c' := (220, [some (.ref 80), some (.int x10)], [.int 1, .ref 80], mT s)) rfl ?_
                              refine w_callLT K (E := f_Parser_fail (1 : Int32) s) (g := fun (x522 : mS) => (none, mT x522)) rfl (m_Parser_fail (len := len) (xs := xs) (d + 2) (1 : Int32) s) (fun x522 => ?_)
                              refine w_go K 0 (c' := (223, [some (.ref 80), some (.int x10)], [], mT x522)) rfl ?_
                              exact w_ret K rfl (hK _)
                            · refine w_go K 1 (c' := (212, [some (.ref 80), some (.int x10)], [.ref 80], mT s)) rfl ?_
                              refine w_callL K (E := f_Parser_closeLine s) (g := fun (x523 : mS) => (none, mT x523)) rfl (m_Parser_closeLine (len := len) (xs := xs) (d + 0) s) (fun x523 => ?_)
                              refine w_go K 1 (c' := (223, [some (.ref 80), some (.int x10)], [], mT x523)) rfl ?_
                              exact w_ret K rfl (hK _)
                          · refine w_go K 2 (c' := (220, [some (.ref 80), some (.int x10)], [.int 1, .ref 80], mT s)) rfl ?_
                            refine w_callLT K (E := f_Parser_fail (1 : Int32) s) (g := fun (x524 : mS) => (none, mT x524)) rfl (m_Parser_fail (len := len) (xs := xs) (d + 2) (1 : Int32) s) (fun x524 => ?_)
                            refine w_go K 0 (c' := (223, [some (.ref 80), some (.int x10)], [], mT x524)) rfl ?_
                            exact w_ret K rfl (hK _)
                    · refine w_go K 2 (c' := (132, [some (.ref 80), some (.int x10)], [.int 3, .ref 80], mT s)) rfl ?_
                      refine w_callL K (E := f_Parser_operate (3 : Int32) s) (g := fun (x525 : mS) => (none, mT x525)) rfl (m_Parser_operate (len := len) (xs := xs) (d + 0) (3 : Int32) s) (fun x525 => ?_)
                      refine w_go K 1 (c' := (223, [some (.ref 80), some (.int x10)], [], mT x525)) rfl ?_
                      exact w_ret K rfl (hK _)
                  · refine w_go K 3 (c' := (144, [some (.ref 80), some (.int x10)], [.int 22, .int (gI s 80 3)], mT s)) rfl ?_
                    refine w_ine K rfl (fun _ => ?_) (fun _ => ?_)
                    · refine w_go K 1 (c' := (148, [some (.ref 80), some (.int x10)], [.int x10], mT s)) rfl ?_
                      refine w_zeq K rfl (fun _ => ?_) (fun _ => ?_)
                      · refine w_go K 3 (c' := (164, [some (.ref 80), some (.int x10)], [.int 12, .int (gI s 80 3)], mT s)) rfl ?_
                        refine w_ine K rfl (fun _ => ?_) (fun _ => ?_)
                        · refine w_go K 2 (c' := (171, [some (.ref 80), some (.int x10)], [.int (gI s 80 8)], mT s)) rfl ?_
                          refine w_zne K rfl (fun _ => ?_) (fun _ => ?_)
                          · refine w_go K 2 (c' := (176, [some (.ref 80), some (.int x10)], [.int 1, .ref 80], mT s)) rfl ?_
                            refine w_callL K (E := f_Parser_unwind (1 : Int32) s) (g := fun (x526 : mS) => (none, mT x526)) rfl (m_Parser_unwind (len := len) (xs := xs) (d + 1) (1 : Int32) s) (fun x526 => ?_)
                            refine w_go K 1 (c' := (180, [some (.ref 80), some (.int x10)], [.ref 80], mT x526)) rfl ?_
                            refine w_gP4 K rfl (fun r527 hr527 => ?_)
                            refine w_go K 0 (c' := (183, [some (.ref 80), some (.int x10)], [.ref r527], mT x526)) rfl ?_
                            refine w_callL K (E := f_Act_beginCondition r527 x526) (g := fun (x528 : mS) => (none, mT x528)) (st_c (b := 1) (st := [.ref r527]) (args := []) (rest := []) rfl rfl rfl hr527) (m_Act_beginCondition (len := len) (xs := xs) r527 hr527 (d + 2) x526) (fun x528 => ?_)
                            refine w_go K 4 (c' := (223, [some (.ref 80), some (.int x10)], [], mT (sI x528 80 7 3))) rfl ?_
                            exact w_ret K rfl (hK _)
                          · refine w_go K 3 (c' := (200, [some (.ref 80), some (.int x10)], [.int 16, .int (gI s 80 3)], mT s)) rfl ?_
                            refine w_ine K rfl (fun _ => ?_) (fun _ => ?_)
                            · refine w_go K 3 (c' := (208, [some (.ref 80), some (.int x10)], [.int 1, .int (gI s 80 8)], mT s)) rfl ?_
                              refine w_ieq K rfl (fun _ => ?_) (fun _ => ?_)
                              · refine w_go K 2 (c' := (220, [some (.ref 80), some (.int x10)], [.int 1, .ref 80], mT s)) rfl ?_
                                refine w_callLT K (E := f_Parser_fail (1 : Int32) s) (g := fun (x529 : mS) => (none, mT x529)) rfl (m_Parser_fail (len := len) (xs := xs) (d + 2) (1 : Int32) s) (fun x529 => ?_)
                                refine w_go K 0 (c' := (223, [some (.ref 80), some (.int x10)], [], mT x529)) rfl ?_
                                exact w_ret K rfl (hK _)
                              · refine w_go K 1 (c' := (212, [some (.ref 80), some (.int x10)], [.ref 80], mT s)) rfl ?_
                                refine w_callL K (E := f_Parser_closeLine s) (g := fun (x530 : mS) => (none, mT x530)) rfl (m_Parser_closeLine (len := len) (xs := xs) (d + 0) s) (fun x530 => ?_)
                                refine w_go K 1 (c' := (223, [some (.ref 80), some (.int x10)], [], mT x530)) rfl ?_
                                exact w_ret K rfl (hK _)
                            · refine w_go K 2 (c' := (220, [some (.ref 80), some (.int x10)], [.int 1, .ref 80], mT s)) rfl ?_
                              refine w_callLT K (E := f_Parser_fail (1 : Int32) s) (g := fun (x531 : mS) => (none, mT x531)) rfl (m_Parser_fail (len := len) (xs := xs) (d + 2) (1 : Int32) s) (fun x531 => ?_)
                              refine w_go K 0 (c' := (223, [some (.ref 80), some (.int x10)], [], mT x531)) rfl ?_
                              exact w_ret K rfl (hK _)
                        · refine w_go K 3 (c' := (200, [some (.ref 80), some (.int x10)], [.int 16, .int (gI s 80 3)], mT s)) rfl ?_
                          refine w_ine K rfl (fun _ => ?_) (fun _ => ?_)
                          · refine w_go K 3 (c' := (208, [some (.ref 80), some (.int x10)], [.int 1, .int (gI s 80 8)], mT s)) rfl ?_
                            refine w_ieq K rfl (fun _ => ?_) (fun _ => ?_)
                            · refine w_go K 2 (c' := (220, [some (.ref 80), some (.int x10)], [.int 1, .ref 80], mT s)) rfl ?_
                              refine w_callLT K (E := f_Parser_fail (1 : Int32) s) (g := fun (x532 : mS) => (none, mT x532)) rfl (m_Parser_fail (len := len) (xs := xs) (d + 2) (1 : Int32) s) (fun x532 => ?_)
                              refine w_go K 0 (c' := (223, [some (.ref 80), some (.int x10)], [], mT x532)) rfl ?_
                              exact w_ret K rfl (hK _)
                            · refine w_go K 1 (c' := (212, [some (.ref 80), some (.int x10)], [.ref 80], mT s)) rfl ?_
                              refine w_callL K (E := f_Parser_closeLine s) (g := fun (x533 : mS) => (none, mT x533)) rfl (m_Parser_closeLine (len := len) (xs := xs) (d + 0) s) (fun x533 => ?_)
                              refine w_go K 1 (c' := (223, [some (.ref 80), some (.int x10)], [], mT x533)) rfl ?_
                              exact w_ret K rfl (hK _)
                          · refine w_go K 2 (c' := (220, [some (.ref 80), some (.int x10)], [.int 1, .ref 80], mT s)) rfl ?_
                            refine w_callLT K (E := f_Parser_fail (1 : Int32) s) (g := fun (x534 : mS) => (none, mT x534)) rfl (m_Parser_fail (len := len) (xs := xs) (d + 2) (1 : Int32) s) (fun x534 => ?_)
                            refine w_go K 0 (c' := (223, [some (.ref 80), some (.int x10)], [], mT x534)) rfl ?_
                            exact w_ret K rfl (hK _)
                      · refine w_go K 1 (c' := (152, [some (.ref 80), some (.int x10)], [.ref 80], mT s)) rfl ?_
                        refine w_callL K (E := f_Parser_closeBracket s) (g := fun (x535 : mS) => (none, mT x535)) rfl (m_Parser_closeBracket (len := len) (xs := xs) (d + 0) s) (fun x535 => ?_)
                        refine w_go K 1 (c' := (223, [some (.ref 80), some (.int x10)], [], mT x535)) rfl ?_
                        exact w_ret K rfl (hK _)
                    · refine w_go K 3 (c' := (164, [some (.ref 80), some (.int x10)], [.int 12, .int (gI s 80 3)], mT s)) rfl ?_
                      refine w_ine K rfl (fun _ => ?_) (fun _ => ?_)
                      · refine w_go K 2 (c' := (171, [some (.ref 80), some (.int x10)], [.int (gI s 80 8)], mT s)) rfl ?_
                        refine w_zne K rfl (fun _ => ?_) (fun _ => ?_)
                        · refine w_go K 2 (c' := (176, [some (.ref 80), some (.int x10)], [.int 1, .ref 80], mT s)) rfl ?_
                          refine w_callL K (E := f_Parser_unwind (1 : Int32) s) (g := fun (x536 : mS) => (none, mT x536)) rfl (m_Parser_unwind (len := len) (xs := xs) (d + 1) (1 : Int32) s) (fun x536 => ?_)
                          refine w_go K 1 (c' := (180, [some (.ref 80), some (.int x10)], [.ref 80], mT x536)) rfl ?_
                          refine w_gP4 K rfl (fun r537 hr537 => ?_)
                          refine w_go K 0 (c' := (183, [some (.ref 80), some (.int x10)], [.ref r537], mT x536)) rfl ?_
                          refine w_callL K (E := f_Act_beginCondition r537 x536) (g := fun (x538 : mS) => (none, mT x538)) (st_c (b := 1) (st := [.ref r537]) (args := []) (rest := []) rfl rfl rfl hr537) (m_Act_beginCondition (len := len) (xs := xs) r537 hr537 (d + 2) x536) (fun x538 => ?_)
                          refine w_go K 4 (c' := (223, [some (.ref 80), some (.int x10)], [], mT (sI x538 80 7 3))) rfl ?_
                          exact w_ret K rfl (hK _)
                        · refine w_go K 3 (c' := (200, [some (.ref 80), some (.int x10)], [.int 16, .int (gI s 80 3)], mT s)) rfl ?_
                          refine w_ine K rfl (fun _ => ?_) (fun _ => ?_)
                          · refine w_go K 3 (c' := (208, [some (.ref 80), some (.int x10)], [.int 1, .int (gI s 80 8)], mT s)) rfl ?_
                            refine w_ieq K rfl (fun _ => ?_) (fun _ => ?_)
                            · refine w_go K 2 (c' := (220, [some (.ref 80), some (.int x10)], [.int 1, .ref 80], mT s)) rfl ?_
                              refine w_callLT K (E := f_Parser_fail (1 : Int32) s) (g := fun (x539 : mS) => (none, mT x539)) rfl (m_Parser_fail (len := len) (xs := xs) (d + 2) (1 : Int32) s) (fun x539 => ?_)
                              refine w_go K 0 (c' := (223, [some (.ref 80), some (.int x10)], [], mT x539)) rfl ?_
                              exact w_ret K rfl (hK _)
                            · refine w_go K 1 (c' := (212, [some (.ref 80), some (.int x10)], [.ref 80], mT s)) rfl ?_
                              refine w_callL K (E := f_Parser_closeLine s) (g := fun (x540 : mS) => (none, mT x540)) rfl (m_Parser_closeLine (len := len) (xs := xs) (d + 0) s) (fun x540 => ?_)
                              refine w_go K 1 (c' := (223, [some (.ref 80), some (.int x10)], [], mT x540)) rfl ?_
                              exact w_ret K rfl (hK _)
                          · refine w_go K 2 (c' := (220, [some (.ref 80), some (.int x10)], [.int 1, .ref 80], mT s)) rfl ?_
                            refine w_callLT K (E := f_Parser_fail (1 : Int32) s) (g := fun (x541 : mS) => (none, mT x541)) rfl (m_Parser_fail (len := len) (xs := xs) (d + 2) (1 : Int32) s) (fun x541 => ?_)
                            refine w_go K 0 (c' := (223, [some (.ref 80), some (.int x10)], [], mT x541)) rfl ?_
                            exact w_ret K rfl (hK _)
                      · refine w_go K 3 (c' := (200, [some (.ref 80), some (.int x10)], [.int 16, .int (gI s 80 3)], mT s)) rfl ?_
                        refine w_ine K rfl (fun _ => ?_) (fun _ => ?_)
                        · refine w_go K 3 (c' := (208, [some (.ref 80), some (.int x10)], [.int 1, .int (gI s 80 8)], mT s)) rfl ?_
                          refine w_ieq K rfl (fun _ => ?_) (fun _ => ?_)
                          · refine w_go K 2 (c' := (220, [some (.ref 80), some (.int x10)], [.int 1, .ref 80], mT s)) rfl ?_
                            refine w_callLT K (E := f_Parser_fail (1 : Int32) s) (g := fun (x542 : mS) => (none, mT x542)) rfl (m_Parser_fail (len := len) (xs := xs) (d + 2) (1 : Int32) s) (fun x542 => ?_)
                            refine w_go K 0 (c' := (223, [some (.ref 80), some (.int x10)], [], mT x542)) rfl ?_
                            exact w_ret K rfl (hK _)
                          · refine w_go K 1 (c' := (212, [some (.ref 80), some (.int x10)], [.ref 80], mT s)) rfl ?_
                            refine w_callL K (E := f_Parser_closeLine s) (g := fun (x543 : mS) => (none, mT x543)) rfl (m_Parser_closeLine (len := len) (xs := xs) (d + 0) s) (fun x543 => ?_)
                            refine w_go K 1 (c' := (223, [some (.ref 80), some (.int x10)], [], mT x543)) rfl ?_
                            exact w_ret K rfl (hK _)
                        · refine w_go K 2 (c' := (220, [some (.ref 80), some (.int x10)], [.int 1, .ref 80], mT s)) rfl ?_
                          refine w_callLT K (E := f_Parser_fail (1 : Int32) s) (g := fun (x544 : mS) => (none, mT x544)) rfl (m_Parser_fail (len := len) (xs := xs) (d + 2) (1 : Int32) s) (fun x544 => ?_)
                          refine w_go K 0 (c' := (223, [some (.ref 80), some (.int x10)], [], mT x544)) rfl ?_
                          exact w_ret K rfl (hK _)
        · refine w_go K 4 (c' := (55, [some (.ref 80), some (.int x10)], [.int 20, .int (gI s 80 3), .ref 80], mT s)) rfl ?_
          refine w_join K (fun (x545 : Int32) => mm_fix (mm_X len xs) mm_Y (mm_call (mm_X len xs) mm_Y (d + 3)) (mm_look mc_Parser_takeBehind) (63, [some (.ref 80), some (.int x10)], [.int x545, .ref 80], mT s) = T) (fun K hJ => ?_) (fun x545 h1 h2 => ?_)
          · refine w_go K 0 (c' := (55, [some (.ref 80), some (.int x10)], [.int 20, .int (gI s 80 3), .ref 80], mT s)) rfl ?_
            refine w_ineT K rfl (fun _ => ?_) (fun _ => ?_)
            · refine w_go K 2 (c' := (63, [some (.ref 80), some (.int x10)], [.int 2, .ref 80], mT s)) rfl ?_
              exact fun _ h => hJ _ h
            · refine w_go K 1 (c' := (63, [some (.ref 80), some (.int x10)], [.int 1, .ref 80], mT s)) rfl ?_
              exact fun _ h => hJ _ h
          · revert h1 h2
            refine w_go K 0 (c' := (63, [some (.ref 80), some (.int x10)], [.int x545, .ref 80], mT s)) rfl ?_
            refine w_callL K (E := f_Parser_operate x545 s) (g := fun (x546 : mS) => (none, mT x546)) rfl (m_Parser_operate (len := len) (xs := xs) (d + 0) x545 s) (fun x546 => ?_)
            refine w_go K 1 (c' := (223, [some (.ref 80), some (.int x10)], [], mT x546)) rfl ?_
            exact w_ret K rfl (hK _)
theorem m_Parser_takeBehind {len : Nat} {xs : Nat → Int32}  (d : Nat)  (s : mS) : ok_Parser_takeBehind s → mm_call (mm_X len xs) mm_Y (d + 4) 106 [.ref 80] (mT s) = some (none, mT (f_Parser_takeBehind s)) := fun h => t_Parser_takeBehind (len := len) (xs := xs) d s (fun t => (some (none, mT t) : Option mm_R) = some (none, mT (f_Parser_takeBehind s))) (fun _ h => h) h rfl
