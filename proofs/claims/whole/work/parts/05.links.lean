theorem am_all_app {α : Type} {f : α → Bool} {a b : List α} (ha : a.all f = true) (hb : b.all f = true) : (a ++ b).all f = true := by rw [List.all_append, ha, hb]; rfl
def am_allok : List (List (Nat × am_I)) → Nat → Prop
  | [], _ => True
  | c :: r, i => (c.all (am_lk i)) = true ∧ am_allok r (i + 1)
theorem am_kk0 : (am_c0.all (am_lk 0)) = true := am_all_app am_k0_0 (am_all_app am_k0_1 (am_all_app am_k0_2 (am_all_app am_k0_3 (am_all_app am_k0_4 (am_all_app am_k0_5 (am_all_app am_k0_6 (am_all_app am_k0_7 (am_all_app am_k0_8 (am_all_app am_k0_9 (am_all_app am_k0_10 (am_all_app am_k0_11 (am_all_app am_k0_12 (am_all_app am_k0_13 (am_all_app am_k0_14 (am_all_app am_k0_15 (am_k0_16))))))))))))))))
theorem am_kk1 : (am_c1.all (am_lk 1)) = true := am_k1_0
theorem am_kk2 : (am_c2.all (am_lk 2)) = true := am_k2_0
theorem am_kk3 : (am_c3.all (am_lk 3)) = true := am_k3_0
theorem am_kk4 : (am_c4.all (am_lk 4)) = true := am_k4_0
theorem am_kk5 : (am_c5.all (am_lk 5)) = true := am_k5_0
theorem am_kk6 : (am_c6.all (am_lk 6)) = true := am_k6_0
theorem am_kk7 : (am_c7.all (am_lk 7)) = true := am_k7_0
theorem am_kk8 : (am_c8.all (am_lk 8)) = true := am_k8_0
theorem am_kk9 : (am_c9.all (am_lk 9)) = true := am_k9_0
theorem am_kk10 : (am_c10.all (am_lk 10)) = true := am_k10_0
theorem am_kk11 : (am_c11.all (am_lk 11)) = true := am_k11_0
theorem am_kk12 : (am_c12.all (am_lk 12)) = true := am_k12_0
theorem am_kk13 : (am_c13.all (am_lk 13)) = true := am_k13_0
theorem am_kk14 : (am_c14.all (am_lk 14)) = true := am_k14_0
theorem am_kk15 : (am_c15.all (am_lk 15)) = true := am_k15_0
theorem am_kk16 : (am_c16.all (am_lk 16)) = true := am_k16_0
theorem am_kk17 : (am_c17.all (am_lk 17)) = true := am_k17_0
theorem am_kk18 : (am_c18.all (am_lk 18)) = true := am_k18_0
theorem am_kk19 : (am_c19.all (am_lk 19)) = true := am_k19_0
theorem am_kk20 : (am_c20.all (am_lk 20)) = true := am_k20_0
theorem am_kk21 : (am_c21.all (am_lk 21)) = true := am_k21_0
theorem am_kk22 : (am_c22.all (am_lk 22)) = true := am_k22_0
theorem am_kk23 : (am_c23.all (am_lk 23)) = true := am_k23_0
theorem am_kk24 : (am_c24.all (am_lk 24)) = true := am_k24_0
theorem am_kk25 : (am_c25.all (am_lk 25)) = true := am_k25_0
theorem am_kk26 : (am_c26.all (am_lk 26)) = true := am_k26_0
theorem am_kk27 : (am_c27.all (am_lk 27)) = true := am_k27_0
theorem am_kk28 : (am_c28.all (am_lk 28)) = true := am_k28_0
theorem am_kk29 : (am_c29.all (am_lk 29)) = true := am_k29_0
theorem am_kk30 : (am_c30.all (am_lk 30)) = true := am_k30_0
theorem am_kk31 : (am_c31.all (am_lk 31)) = true := am_k31_0
theorem am_kk32 : (am_c32.all (am_lk 32)) = true := am_k32_0
theorem am_kk33 : (am_c33.all (am_lk 33)) = true := am_k33_0
theorem am_kk34 : (am_c34.all (am_lk 34)) = true := am_k34_0
theorem am_kk35 : (am_c35.all (am_lk 35)) = true := am_k35_0
theorem am_kk36 : (am_c36.all (am_lk 36)) = true := am_k36_0
theorem am_kk37 : (am_c37.all (am_lk 37)) = true := am_k37_0
theorem am_kk38 : (am_c38.all (am_lk 38)) = true := am_k38_0
theorem am_kk39 : (am_c39.all (am_lk 39)) = true := am_k39_0
theorem am_kk40 : (am_c40.all (am_lk 40)) = true := am_k40_0
theorem am_kk41 : (am_c41.all (am_lk 41)) = true := am_k41_0
theorem am_kk42 : (am_c42.all (am_lk 42)) = true := am_all_app am_k42_0 (am_k42_1)
theorem am_kk43 : (am_c43.all (am_lk 43)) = true := am_k43_0
theorem am_kk44 : (am_c44.all (am_lk 44)) = true := am_k44_0
theorem am_kk45 : (am_c45.all (am_lk 45)) = true := am_k45_0
theorem am_kk46 : (am_c46.all (am_lk 46)) = true := am_k46_0
theorem am_kk47 : (am_c47.all (am_lk 47)) = true := am_k47_0
theorem am_kk48 : (am_c48.all (am_lk 48)) = true := am_k48_0
theorem am_kk49 : (am_c49.all (am_lk 49)) = true := am_k49_0
theorem am_kk50 : (am_c50.all (am_lk 50)) = true := am_k50_0
theorem am_kk51 : (am_c51.all (am_lk 51)) = true := am_k51_0
theorem am_kk52 : (am_c52.all (am_lk 52)) = true := am_k52_0
theorem am_kk53 : (am_c53.all (am_lk 53)) = true := am_k53_0
theorem am_kk54 : (am_c54.all (am_lk 54)) = true := am_k54_0
theorem am_kk55 : (am_c55.all (am_lk 55)) = true := am_k55_0
theorem am_kk56 : (am_c56.all (am_lk 56)) = true := am_k56_0
theorem am_kk57 : (am_c57.all (am_lk 57)) = true := am_k57_0
theorem am_kk58 : (am_c58.all (am_lk 58)) = true := am_k58_0
theorem am_kk59 : (am_c59.all (am_lk 59)) = true := am_k59_0
theorem am_kk60 : (am_c60.all (am_lk 60)) = true := am_k60_0
theorem am_kk61 : (am_c61.all (am_lk 61)) = true := am_k61_0
theorem am_kk62 : (am_c62.all (am_lk 62)) = true := am_k62_0
theorem am_kk63 : (am_c63.all (am_lk 63)) = true := am_k63_0
theorem am_kk64 : (am_c64.all (am_lk 64)) = true := am_k64_0
theorem am_kk65 : (am_c65.all (am_lk 65)) = true := am_k65_0
theorem am_kk66 : (am_c66.all (am_lk 66)) = true := am_k66_0
theorem am_kk67 : (am_c67.all (am_lk 67)) = true := am_k67_0
theorem am_kk68 : (am_c68.all (am_lk 68)) = true := am_k68_0
theorem am_kk69 : (am_c69.all (am_lk 69)) = true := am_k69_0
theorem am_kk70 : (am_c70.all (am_lk 70)) = true := am_k70_0
theorem am_kk71 : (am_c71.all (am_lk 71)) = true := am_k71_0
theorem am_kk72 : (am_c72.all (am_lk 72)) = true := am_k72_0
theorem am_kk73 : (am_c73.all (am_lk 73)) = true := am_k73_0
theorem am_kk74 : (am_c74.all (am_lk 74)) = true := am_k74_0
theorem am_kk75 : (am_c75.all (am_lk 75)) = true := am_k75_0
theorem am_kk76 : (am_c76.all (am_lk 76)) = true := am_k76_0
theorem am_kk77 : (am_c77.all (am_lk 77)) = true := am_k77_0
theorem am_kk78 : (am_c78.all (am_lk 78)) = true := am_k78_0
theorem am_kk79 : (am_c79.all (am_lk 79)) = true := am_all_app am_k79_0 (am_all_app am_k79_1 (am_k79_2))
theorem am_kk80 : (am_c80.all (am_lk 80)) = true := am_k80_0
theorem am_kk81 : (am_c81.all (am_lk 81)) = true := am_all_app am_k81_0 (am_k81_1)
theorem am_kk82 : (am_c82.all (am_lk 82)) = true := am_all_app am_k82_0 (am_k82_1)
theorem am_kk83 : (am_c83.all (am_lk 83)) = true := am_k83_0
theorem am_kk84 : (am_c84.all (am_lk 84)) = true := am_all_app am_k84_0 (am_k84_1)
theorem am_kk85 : (am_c85.all (am_lk 85)) = true := am_k85_0
theorem am_kk86 : (am_c86.all (am_lk 86)) = true := am_k86_0
theorem am_kk87 : (am_c87.all (am_lk 87)) = true := am_k87_0
theorem am_kk88 : (am_c88.all (am_lk 88)) = true := am_k88_0
theorem am_kk89 : (am_c89.all (am_lk 89)) = true := am_k89_0
theorem am_kk90 : (am_c90.all (am_lk 90)) = true := am_k90_0
theorem am_kk91 : (am_c91.all (am_lk 91)) = true := am_k91_0
theorem am_kk92 : (am_c92.all (am_lk 92)) = true := am_all_app am_k92_0 (am_k92_1)
theorem am_kk93 : (am_c93.all (am_lk 93)) = true := am_k93_0
theorem am_kk94 : (am_c94.all (am_lk 94)) = true := am_k94_0
theorem am_kk95 : (am_c95.all (am_lk 95)) = true := am_k95_0
theorem am_kk96 : (am_c96.all (am_lk 96)) = true := am_k96_0
theorem am_kk97 : (am_c97.all (am_lk 97)) = true := am_k97_0
theorem am_kk98 : (am_c98.all (am_lk 98)) = true := am_k98_0
theorem am_kk99 : (am_c99.all (am_lk 99)) = true := am_k99_0
theorem am_kk100 : (am_c100.all (am_lk 100)) = true := am_k100_0
theorem am_kk101 : (am_c101.all (am_lk 101)) = true := am_all_app am_k101_0 (am_k101_1)
theorem am_kk102 : (am_c102.all (am_lk 102)) = true := am_k102_0
theorem am_kk103 : (am_c103.all (am_lk 103)) = true := am_k103_0
theorem am_kk104 : (am_c104.all (am_lk 104)) = true := am_all_app am_k104_0 (am_k104_1)
theorem am_kk105 : (am_c105.all (am_lk 105)) = true := am_k105_0
theorem am_kk106 : (am_c106.all (am_lk 106)) = true := am_k106_0
theorem am_kk107 : (am_c107.all (am_lk 107)) = true := am_k107_0
theorem am_kk108 : (am_c108.all (am_lk 108)) = true := am_k108_0
theorem am_kk109 : (am_c109.all (am_lk 109)) = true := am_k109_0
theorem am_kk110 : (am_c110.all (am_lk 110)) = true := am_k110_0
theorem am_kk111 : (am_c111.all (am_lk 111)) = true := am_k111_0
theorem am_kk112 : (am_c112.all (am_lk 112)) = true := am_k112_0
theorem am_kk113 : (am_c113.all (am_lk 113)) = true := am_k113_0
theorem am_kk114 : (am_c114.all (am_lk 114)) = true := am_k114_0
theorem am_kk115 : (am_c115.all (am_lk 115)) = true := am_k115_0
theorem am_kk116 : (am_c116.all (am_lk 116)) = true := am_k116_0
theorem am_kk117 : (am_c117.all (am_lk 117)) = true := am_k117_0
theorem am_kk118 : (am_c118.all (am_lk 118)) = true := am_k118_0
theorem am_kk119 : (am_c119.all (am_lk 119)) = true := am_k119_0
theorem am_kk120 : (am_c120.all (am_lk 120)) = true := am_k120_0
theorem am_kk121 : (am_c121.all (am_lk 121)) = true := am_k121_0
theorem am_kk122 : (am_c122.all (am_lk 122)) = true := am_k122_0
theorem am_kk123 : (am_c123.all (am_lk 123)) = true := am_k123_0
theorem am_kk124 : (am_c124.all (am_lk 124)) = true := am_k124_0
theorem am_kk125 : (am_c125.all (am_lk 125)) = true := am_k125_0
theorem am_kk126 : (am_c126.all (am_lk 126)) = true := am_k126_0
theorem am_kk127 : (am_c127.all (am_lk 127)) = true := am_k127_0
theorem am_kk128 : (am_c128.all (am_lk 128)) = true := am_k128_0
theorem am_kk129 : (am_c129.all (am_lk 129)) = true := am_k129_0
theorem am_kk130 : (am_c130.all (am_lk 130)) = true := am_k130_0
theorem am_kk131 : (am_c131.all (am_lk 131)) = true := am_k131_0
theorem am_kk132 : (am_c132.all (am_lk 132)) = true := am_k132_0
theorem am_kk133 : (am_c133.all (am_lk 133)) = true := am_k133_0
theorem am_kk134 : (am_c134.all (am_lk 134)) = true := am_k134_0
theorem am_kk135 : (am_c135.all (am_lk 135)) = true := am_k135_0
theorem am_kk136 : (am_c136.all (am_lk 136)) = true := am_k136_0
theorem am_kk137 : (am_c137.all (am_lk 137)) = true := am_k137_0
theorem am_kk138 : (am_c138.all (am_lk 138)) = true := am_k138_0
theorem am_kk139 : (am_c139.all (am_lk 139)) = true := am_k139_0
theorem am_kk140 : (am_c140.all (am_lk 140)) = true := am_k140_0
theorem am_kk141 : (am_c141.all (am_lk 141)) = true := am_k141_0
theorem am_kk142 : (am_c142.all (am_lk 142)) = true := am_k142_0
theorem am_kk143 : (am_c143.all (am_lk 143)) = true := am_k143_0
theorem am_kk144 : (am_c144.all (am_lk 144)) = true := am_k144_0
theorem am_kk145 : (am_c145.all (am_lk 145)) = true := am_k145_0
theorem am_kk146 : (am_c146.all (am_lk 146)) = true := am_k146_0
theorem am_kk147 : (am_c147.all (am_lk 147)) = true := am_k147_0
theorem am_kk148 : (am_c148.all (am_lk 148)) = true := am_k148_0
theorem am_kk149 : (am_c149.all (am_lk 149)) = true := am_k149_0
theorem am_kk150 : (am_c150.all (am_lk 150)) = true := am_k150_0
theorem am_kk151 : (am_c151.all (am_lk 151)) = true := am_k151_0
theorem am_kk152 : (am_c152.all (am_lk 152)) = true := am_k152_0
theorem am_kk153 : (am_c153.all (am_lk 153)) = true := am_k153_0
theorem am_kk154 : (am_c154.all (am_lk 154)) = true := am_k154_0
theorem am_kk155 : (am_c155.all (am_lk 155)) = true := am_k155_0
theorem am_kk156 : (am_c156.all (am_lk 156)) = true := am_k156_0
theorem am_kk157 : (am_c157.all (am_lk 157)) = true := am_k157_0
theorem am_kk158 : (am_c158.all (am_lk 158)) = true := am_k158_0
theorem am_kk159 : (am_c159.all (am_lk 159)) = true := am_k159_0
theorem am_kk160 : (am_c160.all (am_lk 160)) = true := am_k160_0
theorem am_kk161 : (am_c161.all (am_lk 161)) = true := am_k161_0
theorem am_kk162 : (am_c162.all (am_lk 162)) = true := am_k162_0
theorem am_kk163 : (am_c163.all (am_lk 163)) = true := am_k163_0
theorem am_kk164 : (am_c164.all (am_lk 164)) = true := am_k164_0
theorem am_kk165 : (am_c165.all (am_lk 165)) = true := am_k165_0
theorem am_kk166 : (am_c166.all (am_lk 166)) = true := am_all_app am_k166_0 (am_k166_1)
theorem am_kk167 : (am_c167.all (am_lk 167)) = true := am_k167_0
theorem am_kk168 : (am_c168.all (am_lk 168)) = true := am_k168_0
theorem am_kk169 : (am_c169.all (am_lk 169)) = true := am_k169_0
theorem am_kk170 : (am_c170.all (am_lk 170)) = true := am_all_app am_k170_0 (am_k170_1)
theorem am_kk171 : (am_c171.all (am_lk 171)) = true := am_k171_0
theorem am_kk172 : (am_c172.all (am_lk 172)) = true := am_k172_0
theorem am_kk173 : (am_c173.all (am_lk 173)) = true := am_k173_0
theorem am_kk174 : (am_c174.all (am_lk 174)) = true := am_all_app am_k174_0 (am_k174_1)
theorem am_kk175 : (am_c175.all (am_lk 175)) = true := am_k175_0
theorem am_kk176 : (am_c176.all (am_lk 176)) = true := am_all_app am_k176_0 (am_k176_1)
theorem am_kk177 : (am_c177.all (am_lk 177)) = true := am_k177_0
theorem am_kk178 : (am_c178.all (am_lk 178)) = true := am_all_app am_k178_0 (am_k178_1)
theorem am_kk179 : (am_c179.all (am_lk 179)) = true := am_k179_0
theorem am_kk180 : (am_c180.all (am_lk 180)) = true := am_k180_0
theorem am_kk181 : (am_c181.all (am_lk 181)) = true := am_k181_0
theorem am_kk182 : (am_c182.all (am_lk 182)) = true := am_k182_0
theorem am_kk183 : (am_c183.all (am_lk 183)) = true := am_k183_0
theorem am_kk184 : (am_c184.all (am_lk 184)) = true := am_k184_0
theorem am_kk185 : (am_c185.all (am_lk 185)) = true := am_k185_0
theorem am_kk186 : (am_c186.all (am_lk 186)) = true := am_k186_0
theorem am_kk187 : (am_c187.all (am_lk 187)) = true := am_all_app am_k187_0 (am_k187_1)
theorem am_kk188 : (am_c188.all (am_lk 188)) = true := am_k188_0
theorem am_kk189 : (am_c189.all (am_lk 189)) = true := am_k189_0
theorem am_kk190 : (am_c190.all (am_lk 190)) = true := am_k190_0
theorem am_kk191 : (am_c191.all (am_lk 191)) = true := am_k191_0
theorem am_kk192 : (am_c192.all (am_lk 192)) = true := am_k192_0
theorem am_kk193 : (am_c193.all (am_lk 193)) = true := am_k193_0
theorem am_kk194 : (am_c194.all (am_lk 194)) = true := am_k194_0
theorem am_kk195 : (am_c195.all (am_lk 195)) = true := am_k195_0
theorem am_kk196 : (am_c196.all (am_lk 196)) = true := am_k196_0
theorem am_kk197 : (am_c197.all (am_lk 197)) = true := am_k197_0
theorem am_kk198 : (am_c198.all (am_lk 198)) = true := am_k198_0
theorem am_kk199 : (am_c199.all (am_lk 199)) = true := am_k199_0
theorem am_kk200 : (am_c200.all (am_lk 200)) = true := am_k200_0
theorem am_kk201 : (am_c201.all (am_lk 201)) = true := am_k201_0
theorem am_kk202 : (am_c202.all (am_lk 202)) = true := am_k202_0
theorem am_kk203 : (am_c203.all (am_lk 203)) = true := am_k203_0
theorem am_kk204 : (am_c204.all (am_lk 204)) = true := am_k204_0
theorem am_kk205 : (am_c205.all (am_lk 205)) = true := am_k205_0
theorem am_kk206 : (am_c206.all (am_lk 206)) = true := am_k206_0
theorem am_kk207 : (am_c207.all (am_lk 207)) = true := am_k207_0
theorem am_kk208 : (am_c208.all (am_lk 208)) = true := am_k208_0
theorem am_kk209 : (am_c209.all (am_lk 209)) = true := am_k209_0
theorem am_kk210 : (am_c210.all (am_lk 210)) = true := am_k210_0
theorem am_kk211 : (am_c211.all (am_lk 211)) = true := am_k211_0
theorem am_kk212 : (am_c212.all (am_lk 212)) = true := am_k212_0
theorem am_kk213 : (am_c213.all (am_lk 213)) = true := am_k213_0
theorem am_kk214 : (am_c214.all (am_lk 214)) = true := am_k214_0
theorem am_kk215 : (am_c215.all (am_lk 215)) = true := am_k215_0
theorem am_kk216 : (am_c216.all (am_lk 216)) = true := am_all_app am_k216_0 (am_k216_1)
theorem am_kk217 : (am_c217.all (am_lk 217)) = true := am_k217_0
theorem am_kk218 : (am_c218.all (am_lk 218)) = true := am_k218_0
theorem am_kk219 : (am_c219.all (am_lk 219)) = true := am_all_app am_k219_0 (am_k219_1)
theorem am_kk220 : (am_c220.all (am_lk 220)) = true := am_k220_0
theorem am_kk221 : (am_c221.all (am_lk 221)) = true := am_all_app am_k221_0 (am_k221_1)
theorem am_kk222 : (am_c222.all (am_lk 222)) = true := am_k222_0
theorem am_kk223 : (am_c223.all (am_lk 223)) = true := am_all_app am_k223_0 (am_all_app am_k223_1 (am_k223_2))
theorem am_kk224 : (am_c224.all (am_lk 224)) = true := am_k224_0
theorem am_kk225 : (am_c225.all (am_lk 225)) = true := am_k225_0
theorem am_kk226 : (am_c226.all (am_lk 226)) = true := am_all_app am_k226_0 (am_k226_1)
theorem am_kk227 : (am_c227.all (am_lk 227)) = true := am_all_app am_k227_0 (am_k227_1)
theorem am_kk228 : (am_c228.all (am_lk 228)) = true := am_k228_0
theorem am_kk229 : (am_c229.all (am_lk 229)) = true := am_k229_0
theorem am_kk230 : (am_c230.all (am_lk 230)) = true := am_k230_0
theorem am_kk231 : (am_c231.all (am_lk 231)) = true := am_k231_0
theorem am_ok_all : am_allok am_prog 0 := ⟨am_kk0, am_kk1, am_kk2, am_kk3, am_kk4, am_kk5, am_kk6, am_kk7, am_kk8, am_kk9, am_kk10, am_kk11, am_kk12, am_kk13, am_kk14, am_kk15, am_kk16, am_kk17, am_kk18, am_kk19, am_kk20, am_kk21, am_kk22, am_kk23, am_kk24, am_kk25, am_kk26, am_kk27, am_kk28, am_kk29, am_kk30, am_kk31, am_kk32, am_kk33, am_kk34, am_kk35, am_kk36, am_kk37, am_kk38, am_kk39, am_kk40, am_kk41, am_kk42, am_kk43, am_kk44, am_kk45, am_kk46, am_kk47, am_kk48, am_kk49, am_kk50, am_kk51, am_kk52, am_kk53, am_kk54, am_kk55, am_kk56, am_kk57, am_kk58, am_kk59, am_kk60, am_kk61, am_kk62, am_kk63, am_kk64, am_kk65, am_kk66, am_kk67, am_kk68, am_kk69, am_kk70, am_kk71, am_kk72, am_kk73, am_kk74, am_kk75, am_kk76, am_kk77, am_kk78, am_kk79, am_kk80, am_kk81, am_kk82, am_kk83, am_kk84, am_kk85, am_kk86, am_kk87, am_kk88, am_kk89, am_kk90, am_kk91, am_kk92, am_kk93, am_kk94, am_kk95, am_kk96, am_kk97, am_kk98, am_kk99, am_kk100, am_kk101, am_kk102, am_kk103, am_kk104, am_kk105, am_kk106, am_kk107, am_kk108, am_kk109, am_kk110, am_kk111, am_kk112, am_kk113, am_kk114, am_kk115, am_kk116, am_kk117, am_kk118, am_kk119, am_kk120, am_kk121, am_kk122, am_kk123, am_kk124, am_kk125, am_kk126, am_kk127, am_kk128, am_kk129, am_kk130, am_kk131, am_kk132, am_kk133, am_kk134, am_kk135, am_kk136, am_kk137, am_kk138, am_kk139, am_kk140, am_kk141, am_kk142, am_kk143, am_kk144, am_kk145, am_kk146, am_kk147, am_kk148, am_kk149, am_kk150, am_kk151, am_kk152, am_kk153, am_kk154, am_kk155, am_kk156, am_kk157, am_kk158, am_kk159, am_kk160, am_kk161, am_kk162, am_kk163, am_kk164, am_kk165, am_kk166, am_kk167, am_kk168, am_kk169, am_kk170, am_kk171, am_kk172, am_kk173, am_kk174, am_kk175, am_kk176, am_kk177, am_kk178, am_kk179, am_kk180, am_kk181, am_kk182, am_kk183, am_kk184, am_kk185, am_kk186, am_kk187, am_kk188, am_kk189, am_kk190, am_kk191, am_kk192, am_kk193, am_kk194, am_kk195, am_kk196, am_kk197, am_kk198, am_kk199, am_kk200, am_kk201, am_kk202, am_kk203, am_kk204, am_kk205, am_kk206, am_kk207, am_kk208, am_kk209, am_kk210, am_kk211, am_kk212, am_kk213, am_kk214, am_kk215, am_kk216, am_kk217, am_kk218, am_kk219, am_kk220, am_kk221, am_kk222, am_kk223, am_kk224, am_kk225, am_kk226, am_kk227, am_kk228, am_kk229, am_kk230, am_kk231, trivial⟩
theorem am_allok_at : ∀ (l : List (List (Nat × am_I))) (i k : Nat) (c : List (Nat × am_I)), am_allok l i → l[k]? = some c → (c.all (am_lk (i + k))) = true
  | [], _, _, _, _, hk => by simp at hk
  | c0 :: r, i, 0, c, h, hk => by cases hk; exact h.1
  | c0 :: r, i, k + 1, c, h, hk => by
    have := am_allok_at r (i + 1) k c h.2 hk
    rwa [show i + 1 + k = i + (k + 1) from by omega] at this
theorem am_lookup_mem {α : Type} : ∀ (l : List (Nat × α)) (k : Nat) (v : α), l.lookup k = some v → (k, v) ∈ l
  | [], k, v, h => by simp at h
  | (k0, v0) :: r, k, v, h => by
    rw [List.lookup_cons] at h
    split at h
    next hk => cases h; rw [beq_iff_eq] at hk; subst hk; exact List.mem_cons_self
    next => exact List.mem_cons_of_mem _ (am_lookup_mem r k v h)
/-- an instruction of the tables is the code's, and linked -/
theorem am_lk_of {m pc : Nat} {e : am_I} (h : am_tab m pc = some e) : am_lk m (pc, e) = true := by
  unfold am_tab at h
  cases hc : am_prog[m]? with
  | none => rw [hc] at h; simp at h
  | some c =>
    rw [hc] at h
    have h1 := am_allok_at am_prog 0 m c am_ok_all hc
    rw [Nat.zero_add] at h1
    exact List.all_eq_true.mp h1 _ (am_lookup_mem c pc e h)
